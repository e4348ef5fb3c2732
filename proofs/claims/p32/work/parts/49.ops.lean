/-! what callers change, on both sides -/
theorem WX_mono {G : Nat → Bool} {B B' T n e h m : Nat} {u : S_X3} {v : Nat → Int32} (q : WX G B T n e h m u v) (h1 : B ≤ B') (h2 : B' + 96 ≤ 1200) : WX G B' T n e h m u v := by
  obtain ⟨⟨hS, hT, hP, hM, hE, hR, hb1, hb2⟩, hH⟩ := q
  exact ⟨⟨hS, hT, hP, hM, hE, hR, by omega, h2⟩, hH⟩
theorem WX_report {F : Nat} (hF : 6100 < F) {B T n e h m : Nat} {u : S_X3} {w : S_X5} (q : WX G0 B T n e h m u (a_X5_state w)) (hb : h + m + 1 ≤ B + 4 * e) {t : Nat} (ht : t < n) {y fl : Int32} (hy : y = 1 ∨ y = -1) :
    ∃ r' v', (∀ u', a_X3_rep u' = a_X3_rep u → a_X3_time u' = a_X3_time u → a_X3_settings u' = a_X3_settings u → ∃ d, s_X3_dueTime F u' (nI t) = some d ∧ s_X1_make F (a_X3_rep u) (nI t) y d fl = some (nI (h + m), r')) ∧ s_X5_addReport F w (nI t) y fl = some (nI (h + m), m_X5_state v' w) ∧ WX G0 B T n e h (m + 1) (m_X3_rep r' u) v' := by
  have hn := (WB_e q.1).2.1
  obtain ⟨r', v', g1, g2, g3, g4⟩ := WB_report (F := F) (by omega) q.1 hb ht (fl := fl) hy
  refine ⟨r', v', fun u' h1 h2 h3 => ?_, g2, g3, ?_⟩
  · refine ⟨_, x3_dueTime F u' (show t < 24 by omega), ?_⟩
    rw [h2, h3]; exact g1
  · have : WH G0 n u v' := WH_v hn q.2 fun k hk => g4 k (by omega) (by omega) (by omega)
    exact this
theorem x_chg2 {F : Nat} (hF : 6100 < F) {B T n e h m : Nat} {u : S_X3} {w : S_X5} (q : WX G0 B T n e h m u (a_X5_state w)) (hb : h + m + 1 ≤ B + 4 * e) {z : Int32} (hz : z = -1 ∨ ∃ t, t < n ∧ z = nI t) :
    ∃ e' h' m' u' v', s_X3_change_b39 F u z = some (z, u') ∧ s_X5_changed_b27 F w z = some (z, m_X5_state v' w) ∧ WX G0 B T n e' h' m' u' v' ∧ ND T m' v' ∧ e ≤ e' := by
  rcases hz with hz | ⟨t, ht, hz⟩
  · obtain ⟨e', h', m', u', v', k1, k2, k3, k4, k5, -⟩ := x_hearDue hF q
    refine ⟨e', h', m', u', v', ?_, ?_, k3, k4, k5⟩
    · unfold s_X3_change_b39 s_X3_change_b60
      rw [if_pos hz, k1, Option.bind_some]
    · unfold s_X5_changed_b27 s_X5_changed_b40
      rw [if_pos hz, k2, Option.bind_some]
  · have hn := (WB_e q.1).2.1
    obtain ⟨r', v1, g1, g2, g3⟩ := WX_report hF q hb ht (y := -1) (fl := 0) (Or.inr rfl)
    obtain ⟨d, d1, d2⟩ := g1 u rfl rfl rfl
    obtain ⟨e', h', m', u', v', k1, k2, k3, k4, k5, -⟩ := x_hearDue hF (w := m_X5_state v1 w) g3
    refine ⟨e', h', m', u', v', ?_, ?_, k3, k4, k5⟩
    · unfold s_X3_change_b39 s_X3_change_b60
      rw [hz, if_neg (nI_ne (by omega)), d1, Option.bind_some, d2, Option.bind_some, k1, Option.bind_some]
    · unfold s_X5_changed_b27 s_X5_changed_b40
      rw [hz, if_neg (nI_ne (by omega)), g2, Option.bind_some, k2, Option.bind_some]
def mp (k : Nat) : Nat := if k < 4 then 13 + k else 253 + k
theorem x_change {F : Nat} (hF : 6100 < F) {B T n e h m : Nat} {u : S_X3} {w : S_X5} (q : WX G0 B T n e h m u (a_X5_state w)) (hB : B + 2 + 96 ≤ 1200) {k : Nat} (hk : k < 100) (hko : 4 ≤ k → mb (a_X3_living u) ((k - 4) / 4) = true) {y : Int32} (hy : y = -1 ∨ ∃ t, y = nI t ∧ mb (a_X3_living u) t = true) :
    ∃ e' h' m' u' v' z, s_X3_change F u (nI k) y = some (z, u') ∧ s_X5_changed F w (nI (mp k)) y = some (z, m_X5_state v' w) ∧ WX G0 (B + 2) T n e' h' m' u' v' ∧ ND T m' v' ∧ e ≤ e' := by
  have hn := (WB_e q.1).2.1
  have q0 := WX_mono q (show B ≤ B + 2 by omega) hB
  have hb0 : h + m + 2 ≤ (B + 2) + 4 * e := by have := q.1.2.2.2.2.2.2.1; omega
  obtain ⟨z, hz⟩ : ∃ z, z = a_X3_hold u k := ⟨_, rfl⟩
  have hmp : mp k < 353 := by unfold mp; split <;> omega
  have hkn : 4 ≤ k → (k - 4) / 4 < n := fun h4 => q.1.2.2.2.1.1 _ (hko h4)
  have hzm : a_X5_state w (mp k) = z := by
    unfold mp
    by_cases h4 : k < 4
    · rw [if_pos h4, q.2.1 k h4, hz]
    · rw [if_neg h4]
      have := WH0 q.2 (hkn (by omega)) (show (k - 4) % 4 < 4 by omega)
      rw [show 257 + 4 * ((k - 4) / 4) + (k - 4) % 4 = 253 + k by omega, show 4 + 4 * ((k - 4) / 4) + (k - 4) % 4 = k by omega] at this
      rw [this, hz]
  have hz2 : z = -1 ∨ ∃ t, t < n ∧ z = nI t := by
    rcases q.2.2.2.1 k hk with c | ⟨t, c1, c2, -⟩
    · exact Or.inl (hz.trans c)
    · exact Or.inr ⟨t, c1, hz.trans c2⟩
  obtain ⟨f1, hf1⟩ : ∃ f, f = upd (a_X3_hold u) k y := ⟨_, rfl⟩
  obtain ⟨v1, hv1⟩ : ∃ f, f = upd (a_X5_state w) (mp k) y := ⟨_, rfl⟩
  obtain ⟨u1, hu1⟩ : ∃ u1, u1 = m_X3_hold f1 u := ⟨_, rfl⟩
  obtain ⟨w1, hw1⟩ : ∃ w1, w1 = m_X5_state v1 w := ⟨_, rfl⟩
  have est : a_X5_state w1 = v1 := by rw [hw1]
  have erp : a_X3_rep u = a_X3_rep u1 := by rw [hu1]
  have qB1 : WB (B + 2) T n e h m u1 v1 := by
    rw [hu1]
    exact WB_hold q0.1 f1 fun j hj => by rw [hv1, upd_ne _ _ (by unfold mp; split <;> omega)]
  have qH1 : WH G0 n u1 v1 := by
    have : WH G0 n (m_X3_hold f1 u) v1 := by
      refine ⟨fun j hj => ?_, fun o ho j hj => Or.inl ?_, fun j hj => ?_, fun o ho hl j hj => ?_⟩
      · show v1 (13 + j) = f1 j
        rw [hv1, hf1]
        by_cases hjk : j = k
        · rw [hjk, upd_at, show 13 + k = mp k from by unfold mp; rw [if_pos (by omega)], upd_at]
        · rw [upd_ne _ _ hjk, upd_ne _ _ (by unfold mp; split <;> omega)]; exact q.2.1 j hj
      · show v1 (257 + 4 * o + j) = f1 (4 + 4 * o + j)
        rw [hv1, hf1]
        by_cases hjk : 4 + 4 * o + j = k
        · rw [hjk, upd_at, show 257 + 4 * o + j = mp k from by unfold mp; rw [if_neg (by omega)]; omega, upd_at]
        · rw [upd_ne _ _ hjk, upd_ne _ _ (by unfold mp; split <;> omega)]; exact WH0 q.2 ho hj
      · show f1 j = -1 ∨ ∃ t, t < n ∧ f1 j = nI t ∧ mb (a_X3_living u) t = true
        rw [hf1]
        by_cases hjk : j = k
        · rw [hjk, upd_at]
          rcases hy with hy | ⟨t, hy, hl⟩
          · exact Or.inl hy
          · exact Or.inr ⟨t, q.1.2.2.2.1.1 t hl, hy, hl⟩
        · rw [upd_ne _ _ hjk]; exact q.2.2.2.1 j hj
      · show f1 (4 + 4 * o + j) = -1
        have hl2 : mb (a_X3_living u) o = false := hl
        rw [hf1, upd_ne _ _ (fun z => by
          have := hko (by omega)
          rw [show (k - 4) / 4 = o by omega, hl2] at this
          cases this)]
        exact q.2.2.2.2 o ho hl2 j hj
    rw [hu1]; exact this
  rw [← est] at qB1 qH1
  have hcl : s_X3_change F u (nI k) y = if y = (-1) then (s_X3_change_b39 F u1 z) else ((s_X3_dueTime F u1 y).bind fun y3 => ((s_X1_make F (a_X3_rep u1) y 1 y3 0).bind fun y4 => (s_X3_change_b39 F (m_X3_rep y4.2 u1) z))) := by
    unfold s_X3_change
    rw [x0_at F _ hk, Option.bind_some, x0_hold F _ _ hk, Option.bind_some, ← hz, ← hf1, ← hu1, erp]
  have hmd : s_X5_changed F w (nI (mp k)) y = if y = (-1) then (s_X5_changed_b27 F w1 z) else ((s_X5_addReport F w1 y 1 0).bind fun y1 => (s_X5_changed_b27 F y1.2 z)) := by
    unfold s_X5_changed
    rw [if_pos (ni_lx (show mp k < 20377 by omega) (by decide)), if_pos (ni_lx (show mp k < 20377 by omega) (by decide)), ni_nat (by omega), hzm, ← hv1, ← hw1]
  rcases hy with hy | ⟨t, hy, hl⟩
  · rw [if_pos hy] at hcl hmd
    obtain ⟨e', h', m', u', v', k1, k2, k3, k4, k5⟩ := x_chg2 hF ⟨qB1, qH1⟩ (by omega) hz2
    refine ⟨e', h', m', u', v', z, hcl.trans k1, ?_, k3, k4, k5⟩
    rw [hmd, k2, hw1]
  · have htn := q.1.2.2.2.1.1 t hl
    rw [hy, if_neg (nI_ne (by omega))] at hcl hmd
    obtain ⟨r', v2, g1, g2, g3⟩ := WX_report hF ⟨qB1, qH1⟩ (by omega) htn (y := 1) (fl := 0) (Or.inl rfl)
    obtain ⟨d, d1, d2⟩ := g1 u1 rfl rfl rfl
    rw [d1, Option.bind_some, d2, Option.bind_some] at hcl
    rw [g2, Option.bind_some] at hmd
    obtain ⟨e', h', m', u', v', k1, k2, k3, k4, k5⟩ := x_chg2 hF (w := m_X5_state v2 w1) g3 (by omega) hz2
    refine ⟨e', h', m', u', v', z, by rw [hy]; exact hcl.trans k1, ?_, k3, k4, k5⟩
    rw [hy, hmd]
    exact k2.trans (by rw [hw1])
theorem x_lie {F : Nat} (hF : 6100 < F) {B T n e h m : Nat} {u : S_X3} {w : S_X5} (q : WX G0 B T n e h m u (a_X5_state w)) (hB : B + 1 + 96 ≤ 1200) {t : Nat} (ht : t < n) {y : Int32} (hy : y = 1 ∨ y = -1) :
    ∃ e' h' m' u' v' z, s_X3_lie F u (nI t) y = some (z, u') ∧ s_X5_slandered F w (nI t) y = some (z, m_X5_state v' w) ∧ WX G0 (B + 1) T n e' h' m' u' v' ∧ ND T m' v' ∧ e ≤ e' ∧ EV T u u' := by
  have q0 := WX_mono q (show B ≤ B + 1 by omega) hB
  have hb0 : h + m + 1 ≤ (B + 1) + 4 * e := by have := q.1.2.2.2.2.2.2.1; omega
  obtain ⟨r', v2, g1, g2, g3⟩ := WX_report hF q0 hb0 ht (fl := 1) hy
  obtain ⟨d, d1, d2⟩ := g1 u rfl rfl rfl
  obtain ⟨e', h', m', u', v', k1, k2, k3, k4, k5, k6⟩ := x_hearDue hF (w := m_X5_state v2 w) g3
  refine ⟨e', h', m', u', v', nI (h + m), ?_, ?_, k3, k4, k5, (EV.of rfl rfl : EV T u (m_X3_rep r' u)).tr k6⟩
  · unfold s_X3_lie
    rw [d1, Option.bind_some, d2, Option.bind_some, k1, Option.bind_some]
  · unfold s_X5_slandered
    rw [g2, Option.bind_some, k2, Option.bind_some]
/-- a setting -/
theorem WX_set {B T n e h m : Nat} {u : S_X3} {v : Nat → Int32} (q : WX G0 B T n e h m u v) {s d : Nat} (hs : s < 5) (h1 : s < 3 → d ≤ 20) (h2 : s = 3 → d ≤ 1) (h3 : s = 4 → d ≤ 50) : WX G0 B T n e h m (m_X3_settings (upd (a_X3_settings u) s (nI d)) u) (upd v (8 + s) (nI d)) := by
  obtain ⟨he, hn, -⟩ := WB_e q.1
  obtain ⟨⟨hS, ⟨t1, t2, t3, t4⟩, hP, hM, hE, hR, hb⟩, hH⟩ := q
  have lo : ∀ k, k ≠ 8 + s → upd v (8 + s) (nI d) k = v k := fun k hk => upd_ne _ _ hk
  refine ⟨⟨(WS_v hS fun k hk => lo k (by omega) : WS T n e h m u _), ⟨fun i hi => ?_, fun i hi => ?_, ?_, ?_⟩, (WP_v hn hP fun k h1 h2 => lo k (by omega) : WP n h u _), hM, (WE_v (by omega) hE fun k h1 h2 => lo k (by omega) : WE e u _), (WR_v hR fun k h1 h2 => lo k (by omega) : WR n h m u _), hb⟩, (WH_v hn hH fun k hk => lo k (by omega) : WH G0 n u _)⟩
  · show _ = upd (a_X3_settings u) s (nI d) i
    by_cases his : i = s
    · rw [his, upd_at, upd_at]
    · rw [upd_ne _ _ his, lo _ (by omega)]; exact t1 i hi
  · show ∃ c, c ≤ 20 ∧ upd (a_X3_settings u) s (nI d) i = nI c
    by_cases his : i = s
    · rw [his, upd_at]; exact ⟨d, h1 (by omega), rfl⟩
    · rw [upd_ne _ _ his]; exact t2 i hi
  · show upd (a_X3_settings u) s (nI d) 3 = 0 ∨ upd (a_X3_settings u) s (nI d) 3 = 1
    by_cases his : 3 = s
    · rw [← his, upd_at]
      have := h2 his.symm
      rcases (show d = 0 ∨ d = 1 by omega) with z | z
      · rw [z]; exact Or.inl rfl
      · rw [z]; exact Or.inr rfl
    · rw [upd_ne _ _ his]; exact t3
  · show ∃ c, c ≤ 50 ∧ upd (a_X3_settings u) s (nI d) 4 = nI c
    by_cases his : 4 = s
    · rw [← his, upd_at]; exact ⟨d, h3 his.symm, rfl⟩
    · rw [upd_ne _ _ his]; exact t4
/-- a thing becomes a suspect -/
theorem WX_suspect {B T n e h m : Nat} {u : S_X3} {v : Nat → Int32} (q : WX G0 B T n e h m u v) {t : Nat} (hl : mb (a_X3_living u) t = true) : WX G0 B T n e h m (m_X3_suspects (a_X3_suspects u ||| (1 <<< (nI t &&& 31))) u) (upd v (17 + 10 * t + 3) 1) := by
  have hn := (WB_e q.1).2.1
  have ht := q.1.2.2.2.1.1 t hl
  have q3 := WB_susp q.1 ht (b := true) (fun _ => hl) (s' := a_X3_suspects u ||| (1 <<< (nI t &&& 31))) (fun j => mb_set _ (by omega) j)
  have : WH G0 n u (upd v (17 + 10 * t + 3) 1) := WH_v hn q.2 fun k hk => by rw [upd_ne _ _ (by omega)]
  exact ⟨q3, this⟩
