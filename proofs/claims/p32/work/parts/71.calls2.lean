theorem p_suspect {F : Nat} (hF : 6400 < F) {c : Nat} (hc : c < 512) {S : S_X6} {w : S_X5} (q : REL c S w) (v1 : Int32) : OUT c S w (s_X4_suspect_6 F S v1) (s_X4_suspect_e F S.1 v1) (s_X5_suspect F w v1) := by
  obtain ⟨T, n, e, h, m, s, L, ch, S', w1, hL, r, s1, s2, s3, s4, s5, -⟩ := sv_go hF q
  have rx := r.2.2.1
  have hth : a_X3_things (a_X4_now S.1) = nI n := by rw [← s3]; exact rx.1.1.2.2.2.1
  have hs1 : a_X5_state w 1 = nI n := by rw [← s4]; exact rx.1.1.2.2.2.2.1
  have hn := (WB_e rx.1).2.1
  have hwb : WB (2 * c - L) T n e h m (a_X4_now S.1) (a_X5_state w) := by rw [← s3, ← s4]; exact rx.1
  have t1 : ∀ k : Nat, 1 ≤ k → k ≤ 3 → s_X5_suspect_b36 F w v1 (nI k) = some (0, m_X5_thrown (nI k) w) := fun k h1 h3 => by
    unfold s_X5_suspect_b36
    rw [if_neg (show ¬ nI k ≤ 0 from fun z => by have := (ni_le (b := 0) (by omega) (by omega)).mp z; omega)]
  cases g1 : tT n v1 with
  | false =>
    refine OUT.thr q hc 1 (by omega) (by omega) ?_ ?_
    · unfold s_X5_suspect
      rw [m_isThing F (by omega) hs1, Option.bind_some, g1, if_neg Bool.false_ne_true]
      exact t1 1 (by omega) (by omega)
    · unfold s_X4_suspect_e
      rw [c_isThing F hth, Option.bind_some, g1, if_neg Bool.false_ne_true]
  | true =>
    cases g2 : tL (a_X4_now S.1) v1 with
    | false =>
      refine OUT.thr q hc 2 (by omega) (by omega) ?_ ?_
      · unfold s_X5_suspect
        rw [m_isThing F (by omega) hs1, Option.bind_some, g1, if_pos rfl, m_lives F hwb g1, Option.bind_some, g2, if_neg Bool.false_ne_true]
        exact t1 2 (by omega) (by omega)
      · unfold s_X4_suspect_e
        rw [c_isThing F hth, Option.bind_some, g1, if_pos rfl, c_lives, Option.bind_some, g2, if_neg Bool.false_ne_true]
    | true =>
      obtain ⟨d, hd, rfl, hld⟩ := tL_iff.mp g2
      obtain ⟨d', hd', hdd⟩ := (tT_iff (by omega)).mp g1
      have hdn : d < n := by have := (ni_eq (by omega) (by omega)).mp hdd; omega
      have hpart : s_X5_part F w (nI d) 3 = some (bv (a_X3_suspects (a_X4_now S.1)) d) := by
        unfold s_X5_part
        have hp : a_X5_state w (17 + 10 * d + 3) = bv (a_X3_suspects (a_X4_now S.1)) d := (hwb.2.2.1.1 d hdn).2.2.2.1
        rw [show (3 : Int32) = nI 3 from rfl, ix_part, if_pos (ni_lx (by omega) (by decide)), ni_nat (by omega), hp]
      have hm0 : s_X5_suspect F w (nI d) = if bv (a_X3_suspects (a_X4_now S.1)) d = 1 then s_X5_suspect_b36 F w (nI d) 2 else s_X5_suspect_b36 F w (nI d) 0 := by
        unfold s_X5_suspect
        rw [m_isThing F (by omega) hs1, Option.bind_some, g1, if_pos rfl, m_lives F hwb g1, Option.bind_some, g2, if_pos rfl, hpart, Option.bind_some]
      have hsi := st_in_mb (a_X3_suspects (a_X4_now S.1)) (t := d) (by omega)
      cases g3 : mb (a_X3_suspects (a_X4_now S.1)) d with
      | true =>
        refine OUT.thr q hc 2 (by omega) (by omega) ?_ ?_
        · rw [hm0, if_pos (bv1.mpr g3)]
          exact t1 2 (by omega) (by omega)
        · unfold s_X4_suspect_e
          rw [c_isThing F hth, Option.bind_some, g1, if_pos rfl, c_lives, Option.bind_some, g2, if_pos rfl, hsi, g3, if_pos rfl]
      | false =>
        rw [← s3] at hld
        have r3 := WX_suspect rx (t := d) hld
        obtain ⟨x, hx⟩ : ∃ x, x = m_X3_suspects (a_X3_suspects (a_X4_now S'.1) ||| (1 <<< (nI d &&& 31))) (a_X4_now S'.1) := ⟨_, rfl⟩
        have hxs : a_X3_suspects x = a_X3_suspects (a_X4_now S'.1) ||| (1 <<< (nI d &&& 31)) := by rw [hx]
        rw [← hx] at r3
        obtain ⟨v', hv'⟩ : ∃ v' : Nat → Int32, v' = upd (a_X5_state w1) (17 + 10 * d + 3) 1 := ⟨_, rfl⟩
        rw [← hv'] at r3
        have hset : s_X5_setPart F w1 (nI d) 3 1 = some (m_X5_state v' w1) := by rw [hv']; exact x5_setPart F w1 (t := d) (p := 3) (by omega) 1
        have hsus := x5_suspects (F := F) (by omega) (w := m_X5_state v' w1) r3.1
        refine OUT.ok (z := jd_bc (a_X3_suspects x)) (REL.op (w' := m_X5_state v' w1) r hL hc r.1 r3 (by omega) (by omega) (ND_v r.2.2.2.1 fun k h1 _ => by rw [hv']; exact upd_ne _ _ (by omega)) (FR.sf (SF.st w1 v'))) s5 ?_ ?_
        · rw [hm0, if_neg (fun z => by rw [bv1.mp z] at g3; cases g3)]
          unfold s_X5_suspect_b36
          rw [if_pos (by decide), s2, Option.bind_some, hset, Option.bind_some, hsus, Option.bind_some]
        · unfold s_X4_suspect_6
          rw [c_isThing F (u := a_X6_g S) hth, Option.bind_some, g1, if_pos rfl, c_lives, Option.bind_some, g2, if_pos rfl, hsi, g3, if_neg Bool.false_ne_true, s1, Option.bind_some, hxs, hx]
theorem p_set {F : Nat} (hF : 6400 < F) {c : Nat} (hc : c < 512) {S : S_X6} {w : S_X5} (q : REL c S w) (v1 v2 : Int32) : OUT c S w (s_X4_set_6 F S v1 v2) (s_X4_set_e F S.1 v1 v2) (s_X5_set F w v1 v2) := by
  obtain ⟨T, n, e, h, m, s, L, ch, S', w1, hL, r, s1, s2, s3, s4, s5, -⟩ := sv_go hF q
  have rx := r.2.2.1
  obtain ⟨mx, hmx⟩ : ∃ mx : Int32, mx = if 3 ≤ v1 then (if v1 = 3 then 1 else 50) else 20 := ⟨_, rfl⟩
  have hm0 : s_X5_set F w v1 v2 = s_X5_set_b21 F w v1 v2 mx := by
    unfold s_X5_set
    rw [hmx]
    split
    · split <;> rfl
    · rfl
  have hmo : s_X4_mostOf F v1 = some mx := by
    unfold s_X4_mostOf
    rw [hmx]
    split
    · split <;> rfl
    · rfl
  have t1 : ∀ k : Nat, 1 ≤ k → k ≤ 3 → s_X5_set_b48 F w v1 v2 (nI k) = some (0, m_X5_thrown (nI k) w) := fun k h1 h3 => by
    unfold s_X5_set_b48
    rw [if_neg (show ¬ nI k ≤ 0 from fun z => by have := (ni_le (b := 0) (by omega) (by omega)).mp z; omega)]
  rw [hm0]
  cases g1 : tT 5 v1 with
  | false =>
    refine OUT.thr q hc 1 (by omega) (by omega) ?_ ?_
    · unfold s_X5_set_b21
      rw [m_isSetting, Option.bind_some, g1, if_neg Bool.false_ne_true]
      exact t1 1 (by omega) (by omega)
    · unfold s_X4_set_e
      rw [c_isSetting, Option.bind_some, g1, if_neg Bool.false_ne_true]
  | true =>
    by_cases hr : (0 : Int32) ≤ v2 ∧ v2 ≤ mx
    · obtain ⟨d, hd, rfl⟩ := (tT_iff (by omega)).mp g1
      obtain ⟨y, hy, rfl⟩ : ∃ k, k < 2147483648 ∧ v2 = nI k := by
        rcases i32_case v2 with z | z
        · exact absurd z (Int32.not_lt.mpr hr.1)
        · exact z
      have hy1 : (d < 3 → y ≤ 20) ∧ (d = 3 → y ≤ 1) ∧ (d = 4 → y ≤ 50) := by
        have h2 := hr.2
        rw [hmx] at h2
        refine ⟨fun hh => ?_, fun hh => ?_, fun hh => ?_⟩
        · rw [if_neg (il_nle (show d < 3 by omega) (by decide))] at h2
          exact (ni_le (b := 20) hy (by omega)).mp h2
        · subst hh
          rw [if_pos (by decide), if_pos (by decide)] at h2
          exact (ni_le (b := 1) hy (by omega)).mp h2
        · subst hh
          rw [if_pos (by decide), if_neg (by decide)] at h2
          exact (ni_le (b := 50) hy (by omega)).mp h2
      have r3 := WX_set rx hd hy1.1 hy1.2.1 hy1.2.2
      obtain ⟨x, hx⟩ : ∃ x, x = m_X3_settings (upd (a_X3_settings (a_X4_now S'.1)) d (nI y)) (a_X4_now S'.1) := ⟨_, rfl⟩
      obtain ⟨v', hv'⟩ : ∃ v' : Nat → Int32, v' = upd (a_X5_state w1) (8 + d) (nI y) := ⟨_, rfl⟩
      rw [← hx, ← hv'] at r3
      have e8 : (8 : Int32) + nI d = nI (8 + d) := by rw [show (8 : Int32) = nI 8 from rfl, ni_add]
      refine OUT.ok (z := a_X3_settings (a_X4_now S'.1) d) (REL.op (w' := m_X5_state v' w1) r hL hc r.1 r3 (by omega) (by omega) (ND_v r.2.2.2.1 fun k h1 _ => by rw [hv']; exact upd_ne _ _ (by omega)) (FR.sf (SF.st w1 v'))) s5 ?_ ?_
      · unfold s_X5_set_b21
        rw [m_isSetting, Option.bind_some, g1, if_pos rfl, m_within, decide_eq_true hr, Option.bind_some, if_pos rfl]
        unfold s_X5_set_b48
        rw [if_pos (by decide), s2, Option.bind_some, e8, if_pos (ni_lx (by omega) (by omega)), if_pos (ni_lx (by omega) (by omega)), ni_nat (by omega), rx.1.2.1.1 d hd, hv']
      · unfold s_X4_set_6
        rw [c_isSetting, Option.bind_some, g1, if_pos rfl, if_neg (Int32.not_lt.mpr hr.1), hmo, Option.bind_some, if_pos hr.2, s1, Option.bind_some, if_pos (ni_lx (by omega) (by omega)), if_pos (ni_lx (by omega) (by omega)), ni_nat (by omega), hx]
    · refine OUT.thr q hc 2 (by omega) (by omega) ?_ ?_
      · unfold s_X5_set_b21
        rw [m_isSetting, Option.bind_some, g1, if_pos rfl, m_within, decide_eq_false hr, Option.bind_some, if_neg Bool.false_ne_true]
        exact t1 2 (by omega) (by omega)
      · unfold s_X4_set_e
        rw [c_isSetting, Option.bind_some, g1, if_pos rfl]
        by_cases h0 : v2 < 0
        · rw [if_pos h0]
        · rw [if_neg h0, hmo, Option.bind_some, if_neg fun z => hr ⟨Int32.not_lt.mp h0, z⟩]
theorem p_pass {F : Nat} (hF : 6400 < F) {c : Nat} (hc : c < 512) {S : S_X6} {w : S_X5} (q : REL c S w) (v1 : Int32) : OUT c S w (s_X4_pass_6 F S v1) (s_X4_pass_e F S.1 v1) (s_X5_pass F w v1) := by
  obtain ⟨T, n, e, h, m, s, L, ch, S', w1, hL, r, s1, s2, s3, s4, s5, -⟩ := sv_go hF q
  have rx := r.2.2.1
  have hs0 : a_X5_state w (0 : Int32).toNatClampNeg = nI T := by rw [← s4]; exact rx.1.1.2.1
  have htm : a_X3_time (a_X4_now S.1) = nI T := by rw [← s3]; exact rx.1.1.1
  have hT := r.1
  by_cases hr : (1 : Int32) ≤ v1 ∧ v1 ≤ 100
  · obtain ⟨d, hd, rfl⟩ : ∃ k, k < 2147483648 ∧ v1 = nI k := by
      rcases i32_case v1 with z | z
      · exfalso
        exact Int32.not_lt.mpr (Int32.le_trans (show (0 : Int32) ≤ 1 by decide) hr.1) z
      · exact z
    have hd1 : d ≤ 100 := (ni_le (b := 100) hd (by omega)).mp hr.2
    by_cases hlim : nI (T + d) ≤ 5000
    · have hTd : T + d ≤ 5000 := (ni_le (b := 5000) (by omega) (by omega)).mp hlim
      obtain ⟨e', h', m', x, w', r1, r2, r3, r4, r5, r6, -⟩ := x_pass (F := F) (by omega) (c := d) (by omega) (by omega) rx r.2.2.2.1
      refine OUT.ok (z := nI e' - nI e) (REL.op (w' := w') r hL hc hTd r3 (by omega) (by omega) r4 (FR.sf r6)) (r6.1.trans s5) ?_ ?_
      · unfold s_X5_pass s_X5_whyNotPassed
        rw [m_within, decide_eq_true hr, Option.bind_some, if_pos rfl, hs0, ni_add, if_pos hlim, Option.bind_some, if_pos (by decide), s2, Option.bind_some, r2, Option.bind_some]
      · unfold s_X4_pass_6
        rw [if_neg (Int32.not_lt.mpr hr.1), if_pos hr.2, show a_X3_time (a_X4_now (a_X6_g S)) = nI T from htm, ni_add, if_pos hlim, s1, Option.bind_some, r1, Option.bind_some]
    · refine OUT.thr q hc 2 (by omega) (by omega) ?_ ?_
      · unfold s_X5_pass s_X5_whyNotPassed
        rw [m_within, decide_eq_true hr, Option.bind_some, if_pos rfl, hs0, ni_add, if_neg hlim, Option.bind_some, if_neg (by decide)]
        rfl
      · unfold s_X4_pass_e
        rw [if_neg (Int32.not_lt.mpr hr.1), if_pos hr.2, htm, ni_add, if_neg hlim]
  · refine OUT.thr q hc 1 (by omega) (by omega) ?_ ?_
    · unfold s_X5_pass s_X5_whyNotPassed
      rw [m_within, decide_eq_false hr, Option.bind_some, if_neg Bool.false_ne_true, Option.bind_some, if_neg (by decide)]
      rfl
    · unfold s_X4_pass_e
      by_cases h0 : v1 < 1
      · rw [if_pos h0]
      · rw [if_neg h0, if_neg fun z => hr ⟨Int32.not_lt.mp h0, z⟩]
theorem p_trial {F : Nat} (hF : 6400 < F) {c : Nat} (hc : c < 512) {S : S_X6} {w : S_X5} (q : REL c S w) : OUT c S w (s_X4_trial_6 F S) none (s_X5_trial F w) := by
  obtain ⟨T, n, e, h, m, s, L, ch, S', w1, hL, r, s1, s2, s3, s4, s5, -⟩ := sv_go hF q
  have rx := r.2.2.1
  obtain ⟨e', h', m', x, w', r1, r2, r3, r4, r5, r6, -⟩ := x_holdTrial (F := F) (by omega) rx r.2.2.2.1
  refine OUT.ok (z := nI e' - nI e) (REL.op (w' := w') r hL hc r.1 r3 (by omega) (by omega) r4 (FR.sf r6)) (r6.1.trans s5) ?_ ?_
  · have e1 : a_X5_state w' (4 : Int32).toNatClampNeg = nI e' := r3.1.1.2.2.2.2.2.2.2.2.2.1
    have e2 : a_X5_state w1 (4 : Int32).toNatClampNeg = nI e := rx.1.1.2.2.2.2.2.2.2.2.2.1
    unfold s_X5_trial
    rw [s2, Option.bind_some, r2, Option.bind_some, e1, e2]
  · unfold s_X4_trial_6
    rw [s1, Option.bind_some, r1, Option.bind_some]
