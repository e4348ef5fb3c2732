/-! a trial and a tick, in the engine, the model and the class -/
theorem e_trialLoop {F : Nat} (hF : 6400 < F) {B T : Nat} (hB : B ≤ 32) {acc : Int32} : ∀ d k e h m u w E nn mm, k + d = 6 → d < nn → d < mm → WX G0 B T 6 e h m u (a_X5_state w) → ND T m (a_X5_state w) → EM 6 m (a_X5_state w) E → (∀ t, t < 6 → a_X5_isSuspect w t = bv acc t) →
    ∃ w' E' m', s_X5_holdTrial_l42 F mm w (nI k) = some w' ∧ s_L_trial_l39 F acc nn E (nI k) = some E' ∧ EM 6 m' (a_X5_state w') E' ∧ a_X5_state w' 3 = nI m' ∧ m' ≤ 100 := by
  intro d
  induction d with
  | zero =>
    intro k e h m u w E nn mm hk hnn hmm q nd em hsu
    obtain ⟨nn, rfl⟩ : ∃ j, nn = j + 1 := ⟨nn - 1, by omega⟩
    obtain ⟨mm, rfl⟩ : ∃ j, mm = j + 1 := ⟨mm - 1, by omega⟩
    obtain rfl : k = 6 := by omega
    have h1 : a_X5_state w (1 : Int32).toNatClampNeg = nI 6 := q.1.1.2.2.2.2.1
    have he := (WB_e q.1).1
    have hbud := q.1.2.2.2.2.2.2.1
    refine ⟨w, E, m, ?_, ?_, em, q.1.1.2.2.2.2.2.2.2.1, by omega⟩
    · rw [e_X5_holdTrial_l42, h1, if_pos (Int32.le_refl _)]
    · rw [e_L_trial_l39, if_pos (by decide)]
  | succ d ih =>
    intro k e h m u w E nn mm hk hnn hmm q nd em hsu
    obtain ⟨nn, rfl⟩ : ∃ j, nn = j + 1 := ⟨nn - 1, by omega⟩
    obtain ⟨mm, rfl⟩ : ∃ j, mm = j + 1 := ⟨mm - 1, by omega⟩
    have hk6 : k < 6 := by omega
    have h1 : a_X5_state w (1 : Int32).toNatClampNeg = nI 6 := q.1.1.2.2.2.2.1
    have hpart : s_X5_part F w (nI k) 3 = some (bv (a_X3_suspects u) k) := by
      have h2 := x5_part F w (t := k) (p := 3) (by omega)
      rw [(q.1.2.2.1.1 k hk6).2.2.2.1] at h2
      exact h2
    have hkn : (nI k).toNatClampNeg = k := ni_nat (by omega)
    have hmd : s_X5_holdTrial_l42 F (mm + 1) w (nI k) = if mb acc k = true ∧ mb (a_X3_suspects u) k = true then ((s_X5_tries F w (nI k)).bind fun y2 => s_X5_holdTrial_l42 F mm y2 (nI (k + 1))) else s_X5_holdTrial_l42 F mm w (nI (k + 1)) := by
      rw [e_X5_holdTrial_l42, h1, if_neg (ni_nle hk6 (by omega)), if_pos (ni_lx (show k < 24 by omega) (by decide)), ni_1]
      simp only [hkn, hsu k hk6, hpart, Option.bind_some]
      cases ha : mb acc k with
      | false => rw [bv_f ha, if_neg (by decide), if_neg (fun z => by cases z.1)]
      | true =>
        rw [bv_t ha, if_pos rfl]
        cases hb : mb (a_X3_suspects u) k with
        | false => rw [bv_f hb, if_neg (by decide), if_neg (fun z => by cases z.2)]
        | true => rw [bv_t hb, if_pos rfl, if_pos ⟨rfl, rfl⟩]
    have n3 : (nI (8 * k + 3)).toNatClampNeg = 8 * k + 3 := ni_nat (by omega)
    have e83 : 8 * nI k + 3 = nI (8 * k + 3) := ni_8tp k 3
    have hth3 : a_XE_th E (8 * k + 3) = bv (a_X3_suspects u) k := (em.2.1 k hk6).2.2.2.1.trans (q.1.2.2.1.1 k hk6).2.2.2.1
    by_cases hc : mb acc k = true ∧ mb (a_X3_suspects u) k = true
    · rw [if_pos hc] at hmd
      obtain ⟨e1, h1', m1, u1, u2, w1, -, k2, k3, k4, k5, -, k7, k8, -⟩ := x_try (F := F) (by omega) q nd hc.2
      obtain ⟨w1', E1, m1', l1, l2, l3, l4, l5⟩ := e_try hF hB q em hc.2 (v4 := acc) hc.1
      have hww : w1 = w1' := Option.some.inj (k3.symm.trans l1)
      subst hww
      have hm1 := (WB_e k4.1).2.2
      have em1 := l3.to l4 k4.1.1.2.2.2.2.2.2.2.1 (by omega) (by omega)
      obtain ⟨w2, E2, m2, p1, p2, p3, p4, p5⟩ := ih (k + 1) e1 h1' m1 u2 w1 E1 nn mm (by omega) (by omega) (by omega) k4 k5 em1 (fun t ht => by rw [k8]; exact hsu t ht)
      refine ⟨w2, E2, m2, ?_, ?_, p3, p4, p5⟩
      · rw [hmd, k3, Option.bind_some]; exact p1
      · rw [l2]; exact p2
    · rw [if_neg hc] at hmd
      obtain ⟨w2, E2, m2, p1, p2, p3, p4, p5⟩ := ih (k + 1) e h m u w E nn mm (by omega) (by omega) (by omega) q nd em hsu
      refine ⟨w2, E2, m2, hmd.trans p1, ?_, p3, p4, p5⟩
      rw [e_L_trial_l39, if_neg (il_nle hk6 (by decide)), e83, if_pos (ni_lx (show 8 * k + 3 < 48 by omega) (by decide)), n3, hth3, ni_1]
      cases ha : mb acc k with
      | false => rw [if_pos ((bit0 acc (by omega)).mpr ha)]; exact p2
      | true =>
        rw [if_neg (fun z => by rw [(bit0 acc (by omega)).mp z] at ha; cases ha)]
        cases hb : mb (a_X3_suspects u) k with
        | false => rw [bv_f hb, if_pos rfl]; exact p2
        | true => exact absurd ⟨ha, hb⟩ hc
theorem e_trial {F : Nat} (hF : 6400 < F) {B T e h m : Nat} (hB : B ≤ 32) {u : S_X3} {w : S_X5} {E : S_XE} (q : WX G0 B T 6 e h m u (a_X5_state w)) (nd : ND T m (a_X5_state w)) (em : EM 6 m (a_X5_state w) E) :
    ∃ w' E' m', s_X5_holdTrial F w = some w' ∧ s_L_trial F E = some E' ∧ EM 6 m' (a_X5_state w') E' ∧ a_X5_state w' 3 = nI m' ∧ m' ≤ 100 := by
  have key := lf_for (fun nn k (a : Nat → Int32) => s_X5_holdTrial_l2 F nn (m_X5_isSuspect a w) (nI k)) 24 (fun a => s_X5_holdTrial_l42 F F (m_X5_isSuspect a w) 0) (fun k a => upd a k (if k < 6 then bv (a_X3_suspects u) k else 0)) (fun k a => ∀ t, t < k → t < 6 → a t = bv (a_X3_suspects u) t)
    (fun nn a _ => by
      show s_X5_holdTrial_l2 F (nn + 1) (m_X5_isSuspect a w) (nI 24) = _
      rw [e_X5_holdTrial_l2, if_pos (by decide)])
    (fun nn k a hk ha => by
      refine ⟨?_, fun t ht htn => ?_⟩
      · obtain ⟨w1, hw1⟩ : ∃ w1, w1 = m_X5_isSuspect a w := ⟨_, rfl⟩
        have est : a_X5_state w1 = a_X5_state w := by rw [hw1]
        have eup : ∀ x, m_X5_isSuspect (upd (a_X5_isSuspect w1) k x) w1 = m_X5_isSuspect (upd a k x) w := fun x => by rw [hw1]
        have h1 : a_X5_state w1 (1 : Int32).toNatClampNeg = nI 6 := by rw [est]; exact q.1.1.2.2.2.2.1
        show s_X5_holdTrial_l2 F (nn + 1) (m_X5_isSuspect a w) (nI k) = s_X5_holdTrial_l2 F nn (m_X5_isSuspect (upd a k (if k < 6 then bv (a_X3_suspects u) k else 0)) w) (nI (k + 1))
        rw [← hw1, e_X5_holdTrial_l2, if_neg (il_nle hk (by decide)), h1, if_pos (ni_lx hk (by decide))]
        by_cases hkn : k < 6
        · have hpart : s_X5_part F w1 (nI k) 3 = some (bv (a_X3_suspects u) k) := by
            have h2 := x5_part F w1 (t := k) (p := 3) (by omega)
            rw [est, (q.1.2.2.1.1 k hkn).2.2.2.1] at h2
            exact h2
          rw [if_neg (ni_nle hkn (by omega)), hpart, Option.bind_some, if_pos (ni_lx hk (by decide)), ni_nat (by omega), eup, ni_1, if_pos hkn]
        · rw [if_pos ((ni_le (by omega) (by omega)).mpr (by omega)), ni_nat (by omega), eup, ni_1, if_neg hkn]
      · by_cases htk : t = k
        · rw [htk, upd_at, if_pos (by omega)]
        · rw [upd_ne _ _ htk]; exact ha t (by omega) htn)
    24 0 (a_X5_isSuspect w) F rfl (by omega) (fun t ht => by omega)
  obtain ⟨a, ha⟩ : ∃ a, a = fr (fun k a => upd a k (if k < 6 then bv (a_X3_suspects u) k else 0)) 0 24 (a_X5_isSuspect w) := ⟨_, rfl⟩
  rw [← ha] at key
  obtain ⟨k1, k2⟩ := key
  have k1' : s_X5_holdTrial F w = s_X5_holdTrial_l42 F F (m_X5_isSuspect a w) 0 := k1
  obtain ⟨w2, E2, m2, p1, p2, p3, p4, p5⟩ := e_trialLoop hF hB (acc := a_X3_suspects u) 6 0 e h m u (m_X5_isSuspect a w) E F F (by omega) (by omega) (by omega) q nd em (fun t ht => k2 t (by omega) ht)
  refine ⟨w2, E2, m2, k1'.trans p1, ?_, p3, p4, p5⟩
  rw [e_suspects hF (s := a_X3_suspects u) (fun t ht => q.1.2.2.2.1.1 t (q.1.2.2.2.1.2.1 t ht)) (fun t ht => (em.2.1 t ht).2.2.2.1.trans (q.1.2.2.1.1 t ht).2.2.2.1)]
  exact p2
theorem EM.time {m : Nat} {v : Nat → Int32} {E : S_XE} (em : EM 6 m v E) : EM 6 m (upd v 0 (v 0 + 1)) (upd E.1 0 (E.1 0 + 1), E.2.1, E.2.2.1, E.2.2.2) := by
  obtain ⟨⟨⟨a0, a1, a2, a3, a4, a5, a6⟩, a7⟩, b, c, d1, d2, d3⟩ := em
  have lo : ∀ k, k ≠ 0 → upd v 0 (v 0 + 1) k = v k := fun k hk => upd_ne _ _ hk
  have row : ∀ i, i < m → RV (upd v 0 (v 0 + 1)) i = RV v i := fun i hi => RV_v (m := m) (fun k h1 _ => lo k (by omega)) hi
  obtain ⟨Q, hQ⟩ : ∃ Q, Q = upd E.1 0 (E.1 0 + 1) := ⟨_, rfl⟩
  have Qlo : ∀ k, k ≠ 0 → Q k = E.1 k := fun k hk => by rw [hQ, upd_ne _ _ hk]
  have Q0 : Q 0 = E.1 0 + 1 := by rw [hQ, upd_at]
  rw [← hQ]
  refine ⟨⟨⟨?_, ?_, ?_, ?_, ?_, ?_, ?_⟩, fun i hi => ?_⟩, fun s hs => ?_, ⟨fun k hk => ?_, fun k hk => ?_⟩, fun i hi => ?_, fun i i' hij hi => ?_, fun i hi => ?_⟩
  · show Q 0 = _
    rw [Q0, upd_at, a0]
  · show Q 1 = _
    rw [Qlo _ (by omega), lo _ (by omega)]; exact a1
  · show Q 2 = _
    rw [Qlo _ (by omega), lo _ (by omega)]; exact a2
  · show Q 3 = _
    rw [Qlo _ (by omega), lo _ (by omega)]; exact a3
  · show Q 4 = _
    rw [Qlo _ (by omega), lo _ (by omega)]; exact a4
  · show Q 5 = _
    rw [Qlo _ (by omega), lo _ (by omega)]; exact a5
  · show Q 6 = _
    rw [Qlo _ (by omega), lo _ (by omega)]; exact a6
  · show Q (7 + i) = _
    rw [Qlo _ (by omega), lo _ (by omega)]; exact a7 i hi
  · have := b s hs
    rw [lo _ (by omega), lo _ (by omega), lo _ (by omega), lo (17 + 10 * s + 3) (by omega), lo (17 + 10 * s + 5) (by omega), lo (17 + 10 * s + 6) (by omega), lo (17 + 10 * s + 7) (by omega), lo (17 + 10 * s + 8) (by omega)]
    exact this
  · rw [lo _ (by omega)]; exact c.1 k hk
  · rw [lo _ (by omega)]; exact c.2 k hk
  · rw [row i hi]; exact d1 i hi
  · rw [row i (by omega), row i' hi]; exact d2 i i' hij hi
  · rw [row i hi, lo _ (by omega)]; exact d3 i hi
theorem e_tick {F : Nat} (hF : 6400 < F) {B T e h m : Nat} (hB : B ≤ 32) {u : S_X3} {w : S_X5} {E : S_XE} (q : WX G0 B T 6 e h m u (a_X5_state w)) (em : EM 6 m (a_X5_state w) E) (hT : T < 5600) :
    ∃ w' E' m', s_X5_tick F w = some w' ∧ s_L_tick F E = some E' ∧ EM 6 m' (a_X5_state w') E' ∧ a_X5_state w' 3 = nI m' ∧ m' ≤ 100 := by
  have q1 := WX_time q hT
  have em1 := em.time
  obtain ⟨w1, hw1⟩ : ∃ w1, w1 = m_X5_state (upd (a_X5_state w) 0 (a_X5_state w 0 + 1)) w := ⟨_, rfl⟩
  obtain ⟨u1, hu1⟩ : ∃ u1, u1 = m_X3_time (a_X3_time u + 1) u := ⟨_, rfl⟩
  have est : a_X5_state w1 = upd (a_X5_state w) 0 (a_X5_state w 0 + 1) := by rw [hw1]
  rw [← hu1, ← est] at q1
  rw [← est] at em1
  obtain ⟨e2, h2, m2, u2, v2, k1, k2, k3, k4, k5, k6⟩ := x_hearDue (F := F) (by omega) q1
  obtain ⟨v2', E2, m2', l1, l2, l3, l4, l5⟩ := e_hear hF hB q1 em1
  have hvv : v2 = v2' := st_inj (k2.symm.trans l1)
  subst hvv
  have hm2 := (WB_e k3.1).2.2
  have em2 := l3.to l4 k3.1.1.2.2.2.2.2.2.2.1 (by omega) (by omega)
  obtain ⟨w2, hw2⟩ : ∃ w2, w2 = m_X5_state v2 w1 := ⟨_, rfl⟩
  have est2 : a_X5_state w2 = v2 := by rw [hw2]
  rw [← hw2] at k2
  rw [← est2] at k3 k4 em2
  have hmd : s_X5_tick F w = (if ((a_X5_state w2) (12 : Int32).toNatClampNeg) = 0 then (some (w2)) else (if ¬ ((a_X5_state w2) (12 : Int32).toNatClampNeg) = 0 then (if (((a_X5_state w2) (0 : Int32).toNatClampNeg) - ((a_X5_state w2) (0 : Int32).toNatClampNeg) / ((a_X5_state w2) (12 : Int32).toNatClampNeg) * ((a_X5_state w2) (12 : Int32).toNatClampNeg)) = 0 then ((s_X5_holdTrial F w2).bind fun y2 => (some (y2))) else (some (w2))) else none)) := by
    unfold s_X5_tick
    have : s_X5_hearDue F (m_X5_state (upd (a_X5_state w) (0 : Int32).toNatClampNeg (a_X5_state w (0 : Int32).toNatClampNeg + 1)) w) = some w2 := by rw [← k2, hw1]; rfl
    rw [this, Option.bind_some]
  have hen : s_L_tick F E = (if (E2.1 11) ≤ 0 then (some (E2)) else (if ¬ (E2.1 11) = 0 then (if ((E2.1 0) - (E2.1 0) / (E2.1 11) * (E2.1 11)) = 0 then ((s_L_trial F E2).bind fun y2 => (some (y2))) else (some (E2))) else none)) := by
    unfold s_L_tick
    have : s_L_hear F (m_XE_q (upd (a_XE_q E) (0 : Int32).toNatClampNeg (a_XE_q E (0 : Int32).toNatClampNeg + 1)) E) = some E2 := l2
    rw [this, Option.bind_some]
    rfl
  have s12 : a_X5_state w2 (12 : Int32).toNatClampNeg = a_X3_settings u2 4 := k3.1.2.1.1 4 (by omega)
  have s0 : a_X5_state w2 (0 : Int32).toNatClampNeg = a_X5_state w2 0 := rfl
  have t11 : E2.1 11 = a_X3_settings u2 4 := (em2.1.2 4 (by omega)).trans (k3.1.2.1.1 4 (by omega))
  have t0 : E2.1 0 = a_X5_state w2 0 := em2.1.1.1
  rw [s12, s0] at hmd
  rw [t11, t0] at hen
  obtain ⟨d, d1, d2⟩ := k3.1.2.1.2.2.2
  have h3w : a_X5_state w2 3 = nI m2 := k3.1.1.2.2.2.2.2.2.2.1
  have hb2 := k3.1.2.2.2.2.2.2.1
  have he2 := (WB_e k3.1).1
  by_cases hd0 : d = 0
  · have hs0 : a_X3_settings u2 4 = 0 := by rw [d2, hd0]; rfl
    rw [if_pos hs0] at hmd
    rw [if_pos (by rw [hs0]; exact Int32.le_refl _)] at hen
    exact ⟨w2, E2, m2, hmd, hen, em2, h3w, by omega⟩
  · have hs0 : ¬ a_X3_settings u2 4 = 0 := fun z => by rw [d2] at z; exact hd0 ((ni_eq (b := 0) (by omega) (by omega)).mp z)
    have hs1 : ¬ a_X3_settings u2 4 ≤ 0 := fun z => by rw [d2] at z; have := (ni_le (b := 0) (by omega) (by omega)).mp z; omega
    rw [if_neg hs0, if_pos hs0] at hmd
    rw [if_neg hs1, if_pos hs0] at hen
    by_cases hmod : a_X5_state w2 0 - a_X5_state w2 0 / a_X3_settings u2 4 * a_X3_settings u2 4 = 0
    · rw [if_pos hmod] at hmd hen
      obtain ⟨w3, E3, m3, p1, p2, p3, p4, p5⟩ := e_trial hF hB k3 k4 em2
      rw [p1, Option.bind_some] at hmd
      rw [p2, Option.bind_some] at hen
      exact ⟨w3, E3, m3, hmd, hen, p3, p4, p5⟩
    · rw [if_neg hmod] at hmd hen
      exact ⟨w2, E2, m2, hmd, hen, em2, h3w, by omega⟩
