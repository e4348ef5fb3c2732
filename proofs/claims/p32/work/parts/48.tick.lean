/-! trials and ticks, on both sides -/
theorem x3_trialTail {F : Nat} {v1 acc : Int32} {n : Nat} {u : S_X3} (hs : ∀ t, mb (a_X3_suspects u) t = true → t < n) : ∀ d k nn, k + d = 24 → n ≤ k → d < nn → s_X3_holdTrial_l12 F v1 acc nn u (nI k) = some (a_X3_ends u - v1, u) := by
  intro d
  induction d with
  | zero =>
    intro k nn hk hnk hnn
    obtain ⟨nn, rfl⟩ : ∃ j, nn = j + 1 := ⟨nn - 1, by omega⟩
    obtain rfl : k = 24 := by omega
    rw [e_X3_holdTrial_l12, if_pos (by decide)]
  | succ d ih =>
    intro k nn hk hnk hnn
    obtain ⟨nn, rfl⟩ : ∃ j, nn = j + 1 := ⟨nn - 1, by omega⟩
    have : mb (a_X3_suspects u) k = false := by
      cases hb : mb (a_X3_suspects u) k with
      | false => rfl
      | true => have := hs k hb; omega
    rw [e_X3_holdTrial_l12, if_neg (il_nle (show k < 24 by omega) (by decide)), st_in_mb _ (by omega), mb_and, this, Bool.and_false, if_neg Bool.false_ne_true, ni_1]
    exact ih (k + 1) nn (by omega) (by omega) (by omega)
theorem x_trialLoop {F : Nat} (hF : 6100 < F) {B T n : Nat} {v1 acc : Int32} : ∀ d k e h m u w nn mm, k + d = n → 24 - k < nn → d < mm → WX G0 B T n e h m u (a_X5_state w) → ND T m (a_X5_state w) → (∀ t, t < n → a_X5_isSuspect w t = bv acc t) →
    ∃ e' h' m' u' w', s_X3_holdTrial_l12 F v1 acc nn u (nI k) = some (a_X3_ends u' - v1, u') ∧ s_X5_holdTrial_l42 F mm w (nI k) = some w' ∧ WX G0 B T n e' h' m' u' (a_X5_state w') ∧ ND T m' (a_X5_state w') ∧ e ≤ e' ∧ SF w w' ∧ EV T u u' := by
  intro d
  induction d with
  | zero =>
    intro k e h m u w nn mm hk hnn hmm q nd hsu
    obtain ⟨mm, rfl⟩ : ∃ j, mm = j + 1 := ⟨mm - 1, by omega⟩
    have hn := (WB_e q.1).2.1
    obtain rfl : k = n := by omega
    have h1 : a_X5_state w (1 : Int32).toNatClampNeg = nI k := q.1.1.2.2.2.2.1
    refine ⟨e, h, m, u, w, x3_trialTail (n := k) (fun t ht => q.1.2.2.2.1.1 t (q.1.2.2.2.1.2.1 t ht)) (24 - k) k nn (by omega) (Nat.le_refl _) (by omega), ?_, q, nd, Nat.le_refl _, SF.rf w, EV.of rfl rfl⟩
    rw [e_X5_holdTrial_l42, h1, if_pos (Int32.le_refl _)]
  | succ d ih =>
    intro k e h m u w nn mm hk hnn hmm q nd hsu
    obtain ⟨nn, rfl⟩ : ∃ j, nn = j + 1 := ⟨nn - 1, by omega⟩
    obtain ⟨mm, rfl⟩ : ∃ j, mm = j + 1 := ⟨mm - 1, by omega⟩
    have hn := (WB_e q.1).2.1
    have h1 : a_X5_state w (1 : Int32).toNatClampNeg = nI n := q.1.1.2.2.2.2.1
    have hpart : s_X5_part F w (nI k) 3 = some (bv (a_X3_suspects u) k) := by
      have h2 := x5_part F w (t := k) (p := 3) (by omega)
      rw [(q.1.2.2.1.1 k (by omega)).2.2.2.1] at h2
      exact h2
    rw [e_X3_holdTrial_l12, if_neg (il_nle (show k < 24 by omega) (by decide)), st_in_mb _ (by omega), mb_and, e_X5_holdTrial_l42, h1, if_neg (ni_nle (show k < n by omega) (by omega)), if_pos (ni_lx (show k < 24 by omega) (by decide)), ni_nat (by omega), hsu k (by omega), hpart, Option.bind_some, ni_1]
    have skip := ih (k + 1) e h m u w nn mm (by omega) (by omega) (by omega) q nd hsu
    cases ha : mb acc k with
    | false =>
      rw [bv_f ha, Bool.false_and, if_neg Bool.false_ne_true, if_neg (by decide)]
      exact skip
    | true =>
      rw [bv_t ha, if_pos rfl, Bool.true_and]
      cases hs : mb (a_X3_suspects u) k with
      | false =>
        rw [bv_f hs, if_neg Bool.false_ne_true, if_neg (by decide)]
        exact skip
      | true =>
        rw [bv_t hs, if_pos rfl, if_pos rfl]
        obtain ⟨e1, h1, m1, u1, u2, w1, k1, k2, k3, k4, k5, k6, k7, k8, k9⟩ := x_try hF q nd hs
        rw [k1, Option.bind_some, k2, Option.bind_some, k3, Option.bind_some]
        obtain ⟨e2, h2, m2, u3, w2, p1, p2, p3, p4, p5, p6, p7⟩ := ih (k + 1) e1 h1 m1 u2 w1 nn mm (by omega) (by omega) (by omega) k4 k5 (fun t ht => by rw [k8]; exact hsu t ht)
        exact ⟨e2, h2, m2, u3, w2, p1, p2, p3, p4, by omega, k7.tr p6, k9.tr p7⟩
theorem x_holdTrial {F : Nat} (hF : 6100 < F) {B T n e h m : Nat} {u : S_X3} {w : S_X5} (q : WX G0 B T n e h m u (a_X5_state w)) (nd : ND T m (a_X5_state w)) :
    ∃ e' h' m' u' w', s_X3_holdTrial F u = some (nI e' - nI e, u') ∧ s_X5_holdTrial F w = some w' ∧ WX G0 B T n e' h' m' u' (a_X5_state w') ∧ ND T m' (a_X5_state w') ∧ e ≤ e' ∧ SF w w' ∧ EV T u u' := by
  have hn := (WB_e q.1).2.1
  have key := lf_for (fun nn k (a : Nat → Int32) => s_X5_holdTrial_l2 F nn (m_X5_isSuspect a w) (nI k)) 24 (fun a => s_X5_holdTrial_l42 F F (m_X5_isSuspect a w) 0) (fun k a => upd a k (if k < n then bv (a_X3_suspects u) k else 0)) (fun k a => ∀ t, t < k → t < n → a t = bv (a_X3_suspects u) t)
    (fun nn a _ => by
      show s_X5_holdTrial_l2 F (nn + 1) (m_X5_isSuspect a w) (nI 24) = _
      rw [e_X5_holdTrial_l2, if_pos (by decide)])
    (fun nn k a hk ha => by
      refine ⟨?_, fun t ht htn => ?_⟩
      · obtain ⟨w1, hw1⟩ : ∃ w1, w1 = m_X5_isSuspect a w := ⟨_, rfl⟩
        have est : a_X5_state w1 = a_X5_state w := by rw [hw1]
        have eup : ∀ x, m_X5_isSuspect (upd (a_X5_isSuspect w1) k x) w1 = m_X5_isSuspect (upd a k x) w := fun x => by rw [hw1]
        have h1 : a_X5_state w1 (1 : Int32).toNatClampNeg = nI n := by rw [est]; exact q.1.1.2.2.2.2.1
        show s_X5_holdTrial_l2 F (nn + 1) (m_X5_isSuspect a w) (nI k) = s_X5_holdTrial_l2 F nn (m_X5_isSuspect (upd a k (if k < n then bv (a_X3_suspects u) k else 0)) w) (nI (k + 1))
        rw [← hw1, e_X5_holdTrial_l2, if_neg (il_nle hk (by decide)), h1, if_pos (ni_lx hk (by decide))]
        by_cases hkn : k < n
        · have hpart : s_X5_part F w1 (nI k) 3 = some (bv (a_X3_suspects u) k) := by
            have h2 := x5_part F w1 (t := k) (p := 3) (by omega)
            rw [est, (q.1.2.2.1.1 k hkn).2.2.2.1] at h2
            exact h2
          rw [if_neg (ni_nle hkn (by omega)), hpart, Option.bind_some, if_pos (ni_lx hk (by decide)), ni_nat (by omega), eup, ni_1, if_pos hkn]
        · rw [if_pos ((ni_le (by omega) (by omega)).mpr (by omega)), ni_nat (by omega), eup, ni_1, if_neg hkn]
      · by_cases htk : t = k
        · rw [htk, upd_at, if_pos (by omega)]
        · rw [upd_ne _ _ htk]; exact ha t (by omega) htn)
    24 0 (a_X5_isSuspect w) F rfl (by omega) (fun t ht => by omega)
  obtain ⟨a, ha⟩ : ∃ a, a = fr (fun k a => upd a k (if k < n then bv (a_X3_suspects u) k else 0)) 0 24 (a_X5_isSuspect w) := ⟨_, rfl⟩
  rw [← ha] at key
  obtain ⟨k1, k2⟩ := key
  have k1' : s_X5_holdTrial F w = s_X5_holdTrial_l42 F F (m_X5_isSuspect a w) 0 := k1
  obtain ⟨e2, h2, m2, u3, w2, p1, p2, p3, p4, p5, p6, p7⟩ := x_trialLoop hF (v1 := a_X3_ends u) (acc := a_X3_suspects u) n 0 e h m u (m_X5_isSuspect a w) F F (by omega) (by omega) (by omega) q nd (fun t ht => k2 t (by omega) ht)
  refine ⟨e2, h2, m2, u3, w2, ?_, ?_, p3, p4, p5, (SF.su w a).tr p6, p7⟩
  · have p1' : s_X3_holdTrial F u = some (a_X3_ends u3 - a_X3_ends u, u3) := p1
    rw [p1', p3.1.1.2.2.2.2.2.2.2.2.1, q.1.1.2.2.2.2.2.2.2.2.1]
  · rw [k1']; exact p2
theorem WX_time {B T n e h m : Nat} {u : S_X3} {v : Nat → Int32} (q : WX G0 B T n e h m u v) (hT : T < 5600) : WX G0 B (T + 1) n e h m (m_X3_time (a_X3_time u + 1) u) (upd v 0 (v 0 + 1)) := by
  obtain ⟨he, hn, -⟩ := WB_e q.1
  obtain ⟨⟨⟨s1, s2, s3, s4, s5, s6, s7, s8, s9, s10, s11, s12, s13, s14⟩, hT2, hP, hM, hE, hR, hb⟩, hH⟩ := q
  have lo : ∀ k, k ≠ 0 → upd v 0 (v 0 + 1) k = v k := fun k hk => upd_ne _ _ hk
  refine ⟨⟨⟨?_, ?_, by omega, s4, (lo 1 (by omega)).trans s5, s6, (lo 2 (by omega)).trans s7, (lo 3 (by omega)).trans s8, s9, (lo 4 (by omega)).trans s10, s11, (lo 5 (by omega)).trans s12, (lo 6 (by omega)).trans s13, (lo 7 (by omega)).trans s14⟩, (WT_v hT2 fun k h1 h2 => lo k (by omega) : WT u _), (WP_v hn hP fun k h1 h2 => lo k (by omega) : WP n h u _), hM, (WE_v (by omega) hE fun k h1 h2 => lo k (by omega) : WE e u _), (WR_v hR fun k h1 h2 => lo k (by omega) : WR n h m u _), hb⟩, (WH_v hn hH fun k hk => lo k (by omega) : WH G0 n u _)⟩
  · show a_X3_time u + 1 = _
    rw [s1, ni_1]
  · rw [upd_at, s2, ni_1]
theorem ND_le {T T' m : Nat} {v : Nat → Int32} (nd : ND T m v) (h : T' ≤ T) : ND T' m v := fun j hj => by have := nd j hj; omega
theorem x_tick {F : Nat} (hF : 6100 < F) {B T n e h m : Nat} {u : S_X3} {w : S_X5} (q : WX G0 B T n e h m u (a_X5_state w)) (hT : T < 5600) :
    ∃ e' h' m' u' w', (∀ N v1 v2 k, ¬ v1 ≤ nI k → s_X3_passTicks_l7 F v1 v2 (N + 1) u (nI k) = s_X3_passTicks_l7 F v1 v2 N u' (nI (k + 1))) ∧ s_X5_tick F w = some w' ∧ WX G0 B (T + 1) n e' h' m' u' (a_X5_state w') ∧ ND (T + 1) m' (a_X5_state w') ∧ e ≤ e' ∧ SF w w' ∧ EV (T + 1) u u' := by
  have q1 := WX_time q hT
  obtain ⟨w1, hw1⟩ : ∃ w1, w1 = m_X5_state (upd (a_X5_state w) 0 (a_X5_state w 0 + 1)) w := ⟨_, rfl⟩
  obtain ⟨u1, hu1⟩ : ∃ u1, u1 = m_X3_time (a_X3_time u + 1) u := ⟨_, rfl⟩
  have est : a_X5_state w1 = upd (a_X5_state w) 0 (a_X5_state w 0 + 1) := by rw [hw1]
  rw [← hu1, ← est] at q1
  obtain ⟨e2, h2, m2, u2, v2, k1, k2, k3, k4, k5, k6⟩ := x_hearDue hF q1
  obtain ⟨w2, hw2⟩ : ∃ w2, w2 = m_X5_state v2 w1 := ⟨_, rfl⟩
  have est2 : a_X5_state w2 = v2 := by rw [hw2]
  have sf2 : SF w w2 := by rw [hw2, hw1]; exact (SF.st w _).tr (SF.st _ v2)
  have ev2 : EV (T + 1) u u2 := (EV.of (by rw [hu1]) (by rw [hu1]) : EV (T + 1) u u1).tr k6
  rw [← hw2] at k2
  rw [← est2] at k3 k4
  have hcl : ∀ N v1 v2 k, ¬ v1 ≤ nI k → s_X3_passTicks_l7 F v1 v2 (N + 1) u (nI k) = (if ((a_X3_settings u2) (4 : Int32).toNatClampNeg) ≤ 0 then (s_X3_passTicks_l7 F v1 v2 N u2 (nI k + 1)) else (if ¬ ((a_X3_settings u2) (4 : Int32).toNatClampNeg) = 0 then (if ((a_X3_time u2) - (a_X3_time u2) / ((a_X3_settings u2) (4 : Int32).toNatClampNeg) * ((a_X3_settings u2) (4 : Int32).toNatClampNeg)) = 0 then ((s_X3_holdTrial F u2).bind fun y2 => (s_X3_passTicks_l7 F v1 v2 N y2.2 (nI k + 1))) else (s_X3_passTicks_l7 F v1 v2 N u2 (nI k + 1))) else none)) := by
    intro N v1 v2 k hk
    rw [e_X3_passTicks_l7, if_neg hk, ← hu1, k1, Option.bind_some]
  have hmd : s_X5_tick F w = (if ((a_X5_state w2) (12 : Int32).toNatClampNeg) = 0 then (some (w2)) else (if ¬ ((a_X5_state w2) (12 : Int32).toNatClampNeg) = 0 then (if (((a_X5_state w2) (0 : Int32).toNatClampNeg) - ((a_X5_state w2) (0 : Int32).toNatClampNeg) / ((a_X5_state w2) (12 : Int32).toNatClampNeg) * ((a_X5_state w2) (12 : Int32).toNatClampNeg)) = 0 then ((s_X5_holdTrial F w2).bind fun y2 => (some (y2))) else (some (w2))) else none)) := by
    unfold s_X5_tick
    have : s_X5_hearDue F (m_X5_state (upd (a_X5_state w) (0 : Int32).toNatClampNeg (a_X5_state w (0 : Int32).toNatClampNeg + 1)) w) = some w2 := by rw [← k2, hw1]; rfl
    rw [this, Option.bind_some]
  have s12 : a_X5_state w2 (12 : Int32).toNatClampNeg = a_X3_settings u2 4 := k3.1.2.1.1 4 (by omega)
  have s0 : a_X5_state w2 (0 : Int32).toNatClampNeg = a_X3_time u2 := k3.1.1.2.1.trans k3.1.1.1.symm
  have i4 : a_X3_settings u2 (4 : Int32).toNatClampNeg = a_X3_settings u2 4 := rfl
  rw [s12, s0] at hmd
  rw [i4] at hcl
  obtain ⟨d, d1, d2⟩ := k3.1.2.1.2.2.2
  by_cases hd0 : d = 0
  · have hs0 : a_X3_settings u2 4 = 0 := by rw [d2, hd0]; rfl
    rw [if_pos hs0] at hmd
    refine ⟨e2, h2, m2, u2, w2, fun N v1 v2 k hk => ?_, hmd, k3, k4, k5, sf2, ev2⟩
    rw [hcl N v1 v2 k hk, hs0, if_pos (by decide), ni_1]
  · have hs0 : ¬ a_X3_settings u2 4 = 0 := fun z => by rw [d2] at z; exact hd0 ((ni_eq (b := 0) (by omega) (by omega)).mp z)
    have hs1 : ¬ a_X3_settings u2 4 ≤ 0 := fun z => by rw [d2] at z; have := (ni_le (b := 0) (by omega) (by omega)).mp z; omega
    rw [if_neg hs0, if_pos hs0] at hmd
    by_cases hmod : a_X3_time u2 - a_X3_time u2 / a_X3_settings u2 4 * a_X3_settings u2 4 = 0
    · rw [if_pos hmod] at hmd
      obtain ⟨e3, h3, m3, u3, w3, p1, p2, p3, p4, p5, p6, p7⟩ := x_holdTrial hF k3 k4
      rw [p2, Option.bind_some] at hmd
      refine ⟨e3, h3, m3, u3, w3, fun N v1 v2 k hk => ?_, hmd, p3, p4, by omega, sf2.tr p6, ev2.tr p7⟩
      rw [hcl N v1 v2 k hk, if_neg hs1, if_pos hs0, if_pos hmod, p1, Option.bind_some, ni_1]
    · rw [if_neg hmod] at hmd
      refine ⟨e2, h2, m2, u2, w2, fun N v1 v2 k hk => ?_, hmd, k3, k4, k5, sf2, ev2⟩
      rw [hcl N v1 v2 k hk, if_neg hs1, if_pos hs0, if_neg hmod, ni_1]
/-- who was dead stays so; who died by now did so behind the time T -/
def EW (T T' : Nat) (u u' : S_X3) : Prop := ∀ t, (mb (a_X3_living u) t = false → mb (a_X3_living u') t = false ∧ a_X3_endTimes u' t = a_X3_endTimes u t) ∧ (mb (a_X3_living u) t = true → mb (a_X3_living u') t = false → ∃ D, T < D ∧ D ≤ T' ∧ a_X3_endTimes u' t = nI D)
theorem EW.rf (T : Nat) (u : S_X3) : EW T T u u := fun t => ⟨fun z => ⟨z, rfl⟩, fun z1 z2 => by rw [z1] at z2; cases z2⟩
theorem EW.st {T T' : Nat} {a b c : S_X3} (h1 : EW T T' a b) (h2 : EV (T' + 1) b c) (hT : T ≤ T') : EW T (T' + 1) a c := fun t => by
  obtain ⟨p1, p2⟩ := h1 t
  obtain ⟨q1, q2⟩ := h2 t
  refine ⟨fun z => ?_, fun z1 z2 => ?_⟩
  · obtain ⟨r1, r2⟩ := p1 z
    obtain ⟨r3, r4⟩ := q1 r1
    exact ⟨r3, r4.trans r2⟩
  · cases hb : mb (a_X3_living b) t with
    | true => exact ⟨T' + 1, by omega, Nat.le_refl _, q2 hb z2⟩
    | false =>
      obtain ⟨D, d1, d2, d3⟩ := p2 z1 hb
      exact ⟨D, d1, by omega, (q1 hb).2.trans d3⟩
theorem x_passLoop {F : Nat} (hF : 6100 < F) {B n c : Nat} (hc : c ≤ 200) {v2 v2' : Int32} : ∀ d k T e h m u w nn mm, k + d = c → d < nn → d < mm → T + d ≤ 5600 → WX G0 B T n e h m u (a_X5_state w) → ND T m (a_X5_state w) →
    ∃ e' h' m' u' w', s_X3_passTicks_l7 F (nI c) v2 nn u (nI k) = some (a_X3_ends u' - v2, u') ∧ s_X5_passed_l9 F (nI c) v2' mm w (nI k) = some (a_X5_state w' 4 - v2', w') ∧ WX G0 B (T + d) n e' h' m' u' (a_X5_state w') ∧ ND (T + d) m' (a_X5_state w') ∧ e ≤ e' ∧ SF w w' ∧ ∀ T0 u0, T0 ≤ T → EW T0 T u0 u → EW T0 (T + d) u0 u' := by
  intro d
  induction d with
  | zero =>
    intro k T e h m u w nn mm hk hnn hmm hT q nd
    obtain ⟨nn, rfl⟩ : ∃ j, nn = j + 1 := ⟨nn - 1, by omega⟩
    obtain ⟨mm, rfl⟩ : ∃ j, mm = j + 1 := ⟨mm - 1, by omega⟩
    obtain rfl : k = c := by omega
    refine ⟨e, h, m, u, w, ?_, ?_, q, nd, Nat.le_refl _, SF.rf w, fun _ _ _ z => z⟩
    · rw [e_X3_passTicks_l7, if_pos (Int32.le_refl _)]
    · rw [e_X5_passed_l9, if_pos (Int32.le_refl _)]; rfl
  | succ d ih =>
    intro k T e h m u w nn mm hk hnn hmm hT q nd
    obtain ⟨nn, rfl⟩ : ∃ j, nn = j + 1 := ⟨nn - 1, by omega⟩
    obtain ⟨mm, rfl⟩ : ∃ j, mm = j + 1 := ⟨mm - 1, by omega⟩
    obtain ⟨e1, h1, m1, u1, w1, k1, k2, k3, k4, k5, k6, k7⟩ := x_tick hF q (by omega)
    have hk' : ¬ nI c ≤ nI k := ni_nle (show k < c by omega) (by omega)
    obtain ⟨e2, h2, m2, u2, w2, p1, p2, p3, p4, p5, p6, p7⟩ := ih (k + 1) (T + 1) e1 h1 m1 u1 w1 nn mm (by omega) (by omega) (by omega) (by omega) k3 k4
    rw [show T + 1 + d = T + (d + 1) by omega] at p3 p4 p7
    refine ⟨e2, h2, m2, u2, w2, ?_, ?_, p3, p4, by omega, k6.tr p6, fun T0 u0 z1 z2 => p7 T0 u0 (by omega) (z2.st k7 z1)⟩
    · rw [k1 nn _ v2 k hk']; exact p1
    · rw [e_X5_passed_l9, if_neg hk', k2, Option.bind_some, ni_1]; exact p2
theorem x_pass {F : Nat} (hF : 6100 < F) {B T n e h m c : Nat} {u : S_X3} {w : S_X5} (hc : c ≤ 200) (hT : T + c ≤ 5600) (q : WX G0 B T n e h m u (a_X5_state w)) (nd : ND T m (a_X5_state w)) :
    ∃ e' h' m' u' w', s_X3_passTicks F u (nI c) = some (nI e' - nI e, u') ∧ s_X5_passed F w (nI c) = some (nI e' - nI e, w') ∧ WX G0 B (T + c) n e' h' m' u' (a_X5_state w') ∧ ND (T + c) m' (a_X5_state w') ∧ e ≤ e' ∧ SF w w' ∧ EW T (T + c) u u' := by
  obtain ⟨e2, h2, m2, u2, w2, p1, p2, p3, p4, p5, p6, p7⟩ := x_passLoop hF hc (v2 := a_X3_ends u) (v2' := a_X5_state w (4 : Int32).toNatClampNeg) c 0 T e h m u w F F (by omega) (by omega) (by omega) hT q nd
  have p1' : s_X3_passTicks F u (nI c) = _ := p1
  have p2' : s_X5_passed F w (nI c) = _ := p2
  have i4 : a_X5_state w (4 : Int32).toNatClampNeg = nI e := q.1.1.2.2.2.2.2.2.2.2.2.1
  have i5 : a_X5_state w2 4 = nI e2 := p3.1.1.2.2.2.2.2.2.2.2.2.1
  have i6 : a_X3_ends u = nI e := q.1.1.2.2.2.2.2.2.2.2.1
  have i7 : a_X3_ends u2 = nI e2 := p3.1.1.2.2.2.2.2.2.2.2.1
  rw [i6, i7] at p1'
  rw [i4, i5] at p2'
  exact ⟨e2, h2, m2, u2, w2, p1', p2', p3, p4, p5, p6, p7 T u (Nat.le_refl _) (EW.rf T u)⟩
