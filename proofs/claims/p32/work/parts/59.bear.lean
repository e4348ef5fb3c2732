/-! how much slander, on both sides -/
def FX (u u' : S_X4) : Prop := a_X4_now u' = a_X4_now u ∧ a_X4_savedStates u' = a_X4_savedStates u ∧ a_X4_text u' = a_X4_text u
theorem FX.rf (u : S_X4) : FX u u := ⟨rfl, rfl, rfl⟩
theorem FX.tr {a b c : S_X4} (h1 : FX a b) (h2 : FX b c) : FX a c := ⟨h2.1.trans h1.1, h2.2.1.trans h1.2.1, h2.2.2.trans h1.2.2⟩
theorem FX.ah (u : S_X4) (x : S_X3) : FX u (m_X4_ahead x u) := ⟨rfl, rfl, rfl⟩
theorem FX.sl (u : S_X4) (x : S_X3) : FX u (m_X4_slandered x u) := ⟨rfl, rfl, rfl⟩
theorem x_replay {F : Nat} (hF : 6400 < F) {B n t j : Nat} (ht : t < n) (hB : B + j + 96 ≤ 1200) {S : Nat → S_X3} (hS : ∀ i, i < j → mb (a_X3_living (S i)) t = true ∧ ∃ z, s_X3_lie F (S i) (nI t) (-1) = some (z, S (i + 1))) (kk : S_X5 → Int32 → Int32 → Option (Int32 × S_X5)) (hj : j < 1000) :
    ∀ d i T e h m w nn, i + d = j → d < nn → WX G0 (B + i) T n e h m (S i) (a_X5_state w) → ND T m (a_X5_state w) → ∃ e' h' m' w', s_X5_wouldBear_l31 F (nI t) (nI j) kk nn w (nI i) = s_X5_wouldBear_b58 F kk w' (nI t) (nI j) ∧ WX G0 (B + j) T n e' h' m' (S j) (a_X5_state w') ∧ ND T m' (a_X5_state w') ∧ SF w w' := by
  intro d
  induction d with
  | zero =>
    intro i T e h m w nn hi hnn q nd
    obtain ⟨nn, rfl⟩ : ∃ k, nn = k + 1 := ⟨nn - 1, by omega⟩
    obtain rfl : i = j := by omega
    exact ⟨e, h, m, w, by rw [e_X5_wouldBear_l31, if_pos (Int32.le_refl _)], q, nd, SF.rf w⟩
  | succ d ih =>
    intro i T e h m w nn hi hnn q nd
    obtain ⟨nn, rfl⟩ : ∃ k, nn = k + 1 := ⟨nn - 1, by omega⟩
    obtain ⟨he, hn, -⟩ := WB_e q.1
    obtain ⟨hl, z, hz⟩ := hS i (by omega)
    obtain ⟨e1, h1, m1, u1, v1, z1, k1, k2, k3, k4, -, -⟩ := x_lie (F := F) (by omega) q (by omega) ht (y := -1) (Or.inr rfl)
    rw [hz] at k1
    have hu : S (i + 1) = u1 := (Prod.ext_iff.mp (Option.some.inj k1)).2
    have hlv := WX_lv q.1 ht
    obtain ⟨e', h', m', w', p1, p2, p3, p4⟩ := ih (i + 1) T e1 h1 m1 (m_X5_state v1 w) nn (by omega) (by omega) (by rw [hu, ← Nat.add_assoc]; exact k3) k4
    refine ⟨e', h', m', w', ?_, p2, p3, (SF.st w v1).tr p4⟩
    rw [e_X5_wouldBear_l31, if_neg (ni_nle (show i < j by omega) (by omega)), x5_lives F w (by omega), Option.bind_some, hlv, hl, if_pos rfl, k2, Option.bind_some, ni_1]
    exact p1
theorem x_bearLoop {F : Nat} (hF : 6400 < F) {B n t T e h m : Nat} (ht : t < n) (hB : B + 13 + 96 ≤ 1200) (hT : T ≤ 5000) {K : Nat → Int32} {w0 : S_X5} (k3 : ∀ g : Nat → Int32, ∃ y, s_X5_copy F 20377 20377 K g 0 0 = some y ∧ ∀ k, k < 377 + 5 * m → y k = a_X5_state w0 k) :
    ∀ d j nn mm (S : Nat → S_X3) u w, j + d = 13 → d < nn → d + 1 < mm → (∀ i, i < j → mb (a_X3_living (S i)) t = true ∧ ∃ z, s_X3_lie F (S i) (nI t) (-1) = some (z, S (i + 1))) → S j = a_X4_slandered u → WX G0 B T n e h m (S 0) (a_X5_state w0) → ND T m (a_X5_state w0) → a_X5_kept w = K → LA m w0 w →
    ∃ z u' w', s_X4_slandersToEnd_l13 F (nI t) nn u (nI j) = some (z, u') ∧ s_X5_wouldBear_l17 F (nI t) mm w (-1) (nI j) = some (z, w') ∧ FX u u' ∧ LA m w0 w' := by
  intro d
  induction d with
  | zero =>
    intro j nn mm S u w hj hnn hmm hS hSj q nd hk la
    obtain ⟨nn, rfl⟩ : ∃ k, nn = k + 1 := ⟨nn - 1, by omega⟩
    obtain ⟨mm, rfl⟩ : ∃ k, mm = k + 1 := ⟨mm - 1, by omega⟩
    obtain rfl : j = 13 := by omega
    refine ⟨-1, u, w, ?_, ?_, FX.rf u, la⟩
    · rw [e_X4_slandersToEnd_l13, if_pos (by decide)]
    · rw [e_X5_wouldBear_l17, if_pos (by decide)]
  | succ d ih =>
    intro j nn mm S u w hj hnn hmm hS hSj q nd hk la
    obtain ⟨nn, rfl⟩ : ∃ k, nn = k + 1 := ⟨nn - 1, by omega⟩
    obtain ⟨mm, rfl⟩ : ∃ k, mm = k + 2 := ⟨mm - 2, by omega⟩
    obtain ⟨he, hn, -⟩ := WB_e q.1
    have h12 : ¬ (12 : Int32) < nI j := ni_nlt (N := j) (k := 12) (by omega) (by omega)
    obtain ⟨e1, h1, m1, w2, p1, p2, p3, p4⟩ := x_replay hF ht (show B + j + 96 ≤ 1200 by omega) hS (s_X5_wouldBear_l17 F (nI t) (mm + 1)) (by omega) j 0 T e h m w F (by omega) (by omega) (by rw [Nat.add_zero]; exact LA_q q la) (LA_nd nd la)
    have p1' : s_X5_wouldBear_l31 F (nI t) (nI j) (s_X5_wouldBear_l17 F (nI t) (mm + 1)) F w 0 = _ := p1
    obtain ⟨x, c1, c2, c3⟩ := x3_copyFrom (F := F) (a_X4_ahead u) p2
    obtain ⟨e2, h2, m2, x2, w3, g1, g2, g3, g4, g5, g6, g7⟩ := x_pass (F := F) (by omega) (c := 30) (by omega) (by omega) c3 p3
    have g1' : s_X3_passTicks F x 30 = _ := g1
    have g2' : s_X5_passed F w2 30 = _ := g2
    have hk3 : a_X5_kept w3 = K := by rw [g6.2.2.2.2.2.2.2.1, p4.2.2.2.2.2.2.2.1]; exact hk
    obtain ⟨y, y1, y2⟩ := k3 (a_X5_state w3)
    obtain ⟨w4, hw4⟩ : ∃ w4, w4 = m_X5_state y w3 := ⟨_, rfl⟩
    have la4 : LA m w0 w4 := by
      rw [hw4]
      exact ⟨la.1.tr ((SF1.of p4).tr ((SF1.of g6).tr (SF1.of (SF.st w3 y)))), y2⟩
    have hlv := WX_lv g3.1 ht
    have hcl : s_X4_slandersToEnd_l13 F (nI t) (nn + 1) u (nI j) = (if mb (a_X3_living x2) t then ((s_X3_lie F (a_X4_slandered u) (nI t) (-1)).bind fun y4 => (s_X4_slandersToEnd_l13 F (nI t) nn (m_X4_slandered y4.2 (m_X4_ahead x2 u)) (nI (j + 1)))) else (some (nI j, m_X4_ahead x2 u))) := by
      rw [e_X4_slandersToEnd_l13, if_neg h12, ← hSj, c1, Option.bind_some, g1', Option.bind_some, x3_lives F _ (by omega), Option.bind_some, ni_1]
    have hmd : s_X5_wouldBear_l17 F (nI t) (mm + 2) w (-1) (nI j) = (if mb (a_X3_living x2) t then s_X5_wouldBear_l17 F (nI t) (mm + 1) w4 (-1) (nI (j + 1)) else s_X5_wouldBear_l17 F (nI t) (mm + 1) w4 (nI j) (nI (j + 1))) := by
      have h78 : ∀ p, s_X5_wouldBear_b78 F (s_X5_wouldBear_l17 F (nI t) (mm + 1)) w3 (nI t) (nI j) p = s_X5_wouldBear_l17 F (nI t) (mm + 1) w4 p (nI (j + 1)) := fun p => by
        unfold s_X5_wouldBear_b78
        rw [hk3, y1, Option.bind_some, hw4, ni_1]
      rw [e_X5_wouldBear_l17, if_neg h12, if_pos rfl, p1']
      unfold s_X5_wouldBear_b58
      rw [g2', Option.bind_some, x5_lives F _ (by omega), Option.bind_some, hlv, h78, h78]
    rw [hcl, hmd]
    cases hl2 : mb (a_X3_living x2) t with
    | false =>
      refine ⟨nI j, m_X4_ahead x2 u, w4, by rw [if_neg Bool.false_ne_true], ?_, FX.ah u x2, la4⟩
      rw [if_neg Bool.false_ne_true, e_X5_wouldBear_l17]
      by_cases hc : (12 : Int32) < nI (j + 1)
      · rw [if_pos hc]
      · rw [if_neg hc, if_neg (nI_ne (by omega))]
    | true =>
      have hlS : mb (a_X3_living (S j)) t = true := by
        cases hb : mb (a_X3_living (S j)) t with
        | true => rfl
        | false =>
          have := ((AG_ew c2 g7) t (by omega)).1 hb
          rw [hl2] at this; cases this
      obtain ⟨e5, h5, m5, u5, v5, z5, r1, r2, r3, r4, -, -⟩ := x_lie (F := F) (by omega) p2 (by omega) ht (y := -1) (Or.inr rfl)
      have hSs : s_X3_lie F (a_X4_slandered u) (nI t) (-1) = some (z5, u5) := by rw [← hSj]; exact r1
      obtain ⟨z, u', w', i1, i2, i3, i4⟩ := ih (j + 1) nn (mm + 1) (fun i => if i ≤ j then S i else u5) (m_X4_slandered u5 (m_X4_ahead x2 u)) w4 (by omega) (by omega) (by omega) (fun i hi => by
        show mb (a_X3_living (if i ≤ j then S i else u5)) t = true ∧ ∃ z, s_X3_lie F (if i ≤ j then S i else u5) (nI t) (-1) = some (z, if i + 1 ≤ j then S (i + 1) else u5)
        rw [if_pos (show i ≤ j by omega)]
        by_cases hij : i = j
        · rw [hij, if_neg (by omega)]
          exact ⟨hlS, z5, r1⟩
        · rw [if_pos (by omega)]
          exact hS i (by omega)) (by
        show (if j + 1 ≤ j then S (j + 1) else u5) = _
        rw [if_neg (by omega)]) (by
        show WX G0 B T n e h m (if 0 ≤ j then S 0 else u5) (a_X5_state w0)
        rw [if_pos (by omega)]; exact q) nd (by rw [hw4]; exact hk3) la4
      refine ⟨z, u', w', ?_, ?_, ((FX.ah u x2).tr (FX.sl _ u5)).tr i3, i4⟩
      · rw [if_pos rfl, hSs, Option.bind_some]
        exact i1
      · rw [if_pos rfl]; exact i2
theorem x_wouldBear {F : Nat} (hF : 6400 < F) {B T n e h m t : Nat} {u : S_X4} {w : S_X5} (q : WX G0 B T n e h m (a_X4_now u) (a_X5_state w)) (nd : ND T m (a_X5_state w)) (hT : T ≤ 5000) (hB : B + 13 + 96 ≤ 1200) (ht : t < n) :
    ∃ z u' w', s_X4_slandersToEnd F u (nI t) = some (z, u') ∧ s_X5_wouldBear F w (nI t) = some (z, w') ∧ FX u u' ∧ LA m w w' := by
  obtain ⟨x0, c1, c2, c3⟩ := x3_copyFrom (F := F) (a_X4_slandered u) q
  obtain ⟨K, k1, k2, k3⟩ := lk_start hF q
  obtain ⟨z, u', w', i1, i2, i3, i4⟩ := x_bearLoop hF ht hB hT k3 13 0 F F (fun _ => x0) (m_X4_slandered x0 u) (m_X5_kept K w) (by omega) (by omega) (by omega) (fun i hi => by omega) rfl c3 nd rfl ⟨SF1.ke w K, fun _ _ => rfl⟩
  refine ⟨z, u', w', ?_, ?_, (FX.sl u x0).tr i3, i4⟩
  · unfold s_X4_slandersToEnd
    rw [c1, Option.bind_some]
    exact i1
  · unfold s_X5_wouldBear
    rw [k1, Option.bind_some]
    exact i2
