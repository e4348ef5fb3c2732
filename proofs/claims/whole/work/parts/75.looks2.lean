theorem p_ended {F : Nat} {c : Nat} (hc : c < 512) {S : S_X6} {w : S_X5} (q : REL c S w) (v1 : Int32) : OUT c S w (on0 S (s_X4_ended F S.1 v1)) (s_X4_ended_e F S.1 v1) (s_X5_ended F w v1) := by
  obtain ⟨T, n, e, h, m, s, L, ch, hL, r⟩ := id q
  have rx := r.2.2.1
  obtain ⟨he, hn, -⟩ := WB_e rx.1
  have h4 : a_X5_state w (4 : Int32).toNatClampNeg = nI e := rx.1.1.2.2.2.2.2.2.2.2.2.1
  have hu : a_X3_ends (a_X4_now S.1) = nI e := rx.1.1.2.2.2.2.2.2.2.2.1
  cases g1 : tT e v1 with
  | false =>
    refine OUT.thr q hc 1 (by omega) (by omega) ?_ ?_
    · unfold s_X5_ended
      rw [h4, m_below F (by omega), Option.bind_some, g1, if_neg Bool.false_ne_true]
      unfold s_X5_ended_b22
      rw [if_neg (by decide)]; rfl
    · unfold s_X4_ended_e
      by_cases h0 : v1 < 0
      · rw [if_pos h0]
      · obtain ⟨p, hp, rfl⟩ := rg_nat (Int32.not_lt.mp h0)
        rw [if_neg h0, hu, if_pos ((ni_le (by omega) hp).mpr (by
          by_cases z : p < e
          · rw [tT_in (by omega) z] at g1; cases g1
          · omega))]
  | true =>
    obtain ⟨d, hd, rfl⟩ := (tT_iff (by omega)).mp g1
    have hv : a_X5_state w (353 + d) = a_X3_endOrder (a_X4_now S.1) d := rx.1.2.2.2.2.1 d hd
    have e3 : (353 : Int32) + nI d = nI (353 + d) := by rw [show (353 : Int32) = nI 353 from rfl, ni_add]
    refine OUT.ok (z := a_X3_endOrder (a_X4_now S.1) d) (S' := S) (w' := m_X5_thrown 0 w) (REL.look0 r hL hc (LK_LA (LK.rf _))) rfl ?_ ?_
    · unfold s_X5_ended
      rw [h4, m_below F (by omega), Option.bind_some, g1, if_pos rfl]
      unfold s_X5_ended_b22
      rw [if_pos (by decide), e3, if_pos (ni_lx (by omega) (by omega)), ni_nat (by omega), hv]
    · unfold s_X4_ended
      rw [if_neg (ni_nneg (by omega)), hu, if_neg (fun z => by have := (ni_le (by omega) (by omega)).mp z; omega), if_pos (show nI d < 24 from (ni_lt (b := 24) (by omega) (by omega)).mpr (by omega)), if_pos (ni_lx (by omega) (by omega)), ni_nat (by omega)]
      rfl
theorem e14 {α : Type} {v : Int32} {k : Nat} (hk : k + 1 < 2147483648) (A B : Option α) (hr : ¬ ((0 : Int32) ≤ v ∧ v ≤ nI k)) : (if v < 0 then A else if v < nI (k + 1) then B else A) = A := by
  by_cases h0 : v < 0
  · rw [if_pos h0]
  · obtain ⟨p, hp, rfl⟩ := rg_nat (Int32.not_lt.mp h0)
    rw [if_neg h0, if_neg (fun z => hr ⟨Int32.not_lt.mp h0, (ni_le hp (by omega)).mpr (by have := (ni_lt hp (by omega)).mp z; omega)⟩)]
theorem e14le {α : Type} {v k : Int32} (A B : Option α) (hr : ¬ ((0 : Int32) ≤ v ∧ v ≤ k)) : (if v < 0 then A else if v ≤ k then B else A) = A := by
  by_cases h0 : v < 0
  · rw [if_pos h0]
  · rw [if_neg h0, if_neg fun z => hr ⟨Int32.not_lt.mp h0, z⟩]
theorem p_count {F : Nat} (hF : 6400 < F) {c : Nat} (hc : c < 512) {S : S_X6} {w : S_X5} (q : REL c S w) (v1 : Int32) : OUT c S w (on0 S (s_X4_count F S.1 v1)) (s_X4_count_e F S.1 v1) (s_X5_count F w v1) := by
  obtain ⟨T, n, e, h, m, s, L, ch, hL, r⟩ := id q
  have rx := r.2.2.1
  by_cases hr : (0 : Int32) ≤ v1 ∧ v1 ≤ 13
  · obtain ⟨p, hp, rfl⟩ := rg_nat hr.1
    have hp13 : p ≤ 13 := (ni_le (b := 13) hp (by omega)).mp hr.2
    have hk : ∃ z w', (s_X4_count F S.1 (nI p)) = some z ∧ s_X5_countOf F (m_X5_thrown 0 w) (nI p) = some (z, w') ∧ LK (m_X5_thrown 0 w) w' := by
      by_cases h13 : p = 13
      · subst h13
        refine ⟨nI s, m_X5_thrown 0 w, ?_, ?_, LK.rf _⟩
        · unfold s_X4_count
          rw [if_neg (by decide), if_pos (by decide), if_pos (by decide)]
          exact congrArg some r.2.2.2.2.1
        · show s_X5_countOf F (m_X5_thrown 0 w) 13 = _
          unfold s_X5_countOf
          iterate 13 rw [if_neg (by decide)]
          exact congrArg (fun z => some (z, m_X5_thrown 0 w)) r.2.2.2.2.2.1
      · obtain ⟨z, w', z1, z2, z3⟩ := x_total (F := F) (by omega) (w := m_X5_thrown 0 w) rx p (by omega)
        refine ⟨z, w', ?_, z2, z3⟩
        unfold s_X4_count
        rw [if_neg (Int32.not_lt.mpr hr.1), if_pos (show nI p < 14 from (ni_lt (b := 14) hp (by omega)).mpr (by omega)), if_neg (show ¬ nI p = 13 from fun z => h13 ((ni_eq (b := 13) hp (by omega)).mp z)), z1]
        rfl
    obtain ⟨z, w', z1, z2, z3⟩ := hk
    refine OUT.ok (z := z) (S' := S) (w' := w') (REL.look0 r hL hc (LK_LA z3)) z3.1.1 ?_ ?_
    · unfold s_X5_count
      rw [m_within, decide_eq_true hr, Option.bind_some, if_pos rfl]
      unfold s_X5_count_b16
      rw [if_pos (by decide), z2, Option.bind_some]
    · rw [z1]
      rfl
  · refine OUT.thr q hc 1 (by omega) (by omega) ?_ ?_
    · unfold s_X5_count
      rw [m_within, decide_eq_false hr, Option.bind_some, if_neg Bool.false_ne_true]
      unfold s_X5_count_b16
      rw [if_neg (by decide)]; rfl
    · exact e14 (k := 13) (by omega) _ _ hr
theorem p_setting {F : Nat} {c : Nat} (hc : c < 512) {S : S_X6} {w : S_X5} (q : REL c S w) (v1 : Int32) : OUT c S w (on0 S (s_X4_setting F S.1 v1)) (s_X4_setting_e F S.1 v1) (s_X5_setting F w v1) := by
  obtain ⟨T, n, e, h, m, s, L, ch, hL, r⟩ := id q
  have rx := r.2.2.1
  cases g1 : tT 5 v1 with
  | false =>
    refine OUT.thr q hc 1 (by omega) (by omega) ?_ ?_
    · unfold s_X5_setting
      rw [m_isSetting, Option.bind_some, g1, if_neg Bool.false_ne_true]
      unfold s_X5_setting_b13
      rw [if_neg (by decide)]; rfl
    · unfold s_X4_setting_e
      rw [c_isSetting, Option.bind_some, g1, if_neg Bool.false_ne_true]
  | true =>
    obtain ⟨d, hd, rfl⟩ := (tT_iff (by omega)).mp g1
    have e8 : (8 : Int32) + nI d = nI (8 + d) := by rw [show (8 : Int32) = nI 8 from rfl, ni_add]
    have hv := rx.1.2.1.1 d hd
    refine OUT.ok (z := a_X3_settings (a_X4_now S.1) d) (S' := S) (w' := m_X5_thrown 0 w) (REL.look0 r hL hc (LK_LA (LK.rf _))) rfl ?_ ?_
    · unfold s_X5_setting
      rw [m_isSetting, Option.bind_some, g1, if_pos rfl]
      unfold s_X5_setting_b13
      rw [if_pos (by decide), e8, if_pos (ni_lx (by omega) (by omega)), ni_nat (by omega), hv]
    · unfold s_X4_setting
      rw [c_isSetting, Option.bind_some, g1, if_pos rfl, if_pos (ni_lx (by omega) (by omega)), ni_nat (by omega)]
      rfl
theorem p_ifPassed {F : Nat} (hF : 6400 < F) {c : Nat} (hc : c < 512) {S : S_X6} {w : S_X5} (q : REL c S w) (v1 v2 : Int32) : OUT c S w (on4 S (s_X4_ifPassed F S.1 v1 v2)) (s_X4_ifPassed_e F S.1 v1 v2) (s_X5_ifPassed F w v1 v2) := by
  obtain ⟨T, n, e, h, m, s, L, ch, hL, r⟩ := id q
  have rx := r.2.2.1
  have bad : ∀ p1 : Int32, p1 = 1 → s_X5_ifPassed_b25 F w v1 v2 p1 = some (0, m_X5_thrown (nI 1) w) := fun p1 hp => by
    subst hp
    unfold s_X5_ifPassed_b25
    rw [if_neg (by decide)]; rfl
  by_cases hr1 : (1 : Int32) ≤ v1 ∧ v1 ≤ 100
  · have hlo : ¬ v1 < 1 := Int32.not_lt.mpr hr1.1
    have hhi : ¬ (100 : Int32) < v1 := Int32.not_lt.mpr hr1.2
    by_cases hr : (0 : Int32) ≤ v2 ∧ v2 ≤ 3
    · obtain ⟨p, hp, rfl⟩ := rg_nat hr.1
      have hp3 : p ≤ 3 := (ni_le (b := 3) hp (by omega)).mp hr.2
      obtain ⟨d, hd, rfl⟩ := rg_nat (Int32.le_trans (show (0 : Int32) ≤ 1 by decide) hr1.1)
      have hd1 : d ≤ 100 := (ni_le (b := 100) hd (by omega)).mp hr1.2
      obtain ⟨x, x1, x2⟩ := x_wouldPass hF (w := m_X5_thrown 0 w) (u := S.1) (c := d) rx r.2.2.2.1 r.1 (by omega)
      obtain ⟨z, w', z1, z2, z3⟩ := x2 p (by omega)
      refine OUT.ok (z := z) (S' := m_X6_g (m_X4_ahead x S.1) S) (w' := w') (REL.look r hL hc (FX.ah S.1 x) z3) z3.1.1 ?_ ?_
      · unfold s_X5_ifPassed
        rw [m_within, decide_eq_true hr1, Option.bind_some, if_pos rfl, m_within, decide_eq_true hr, Option.bind_some, if_pos rfl]
        unfold s_X5_ifPassed_b25
        rw [if_pos (by decide), z2, Option.bind_some]
      · unfold s_X4_ifPassed
        rw [if_neg hlo, if_neg hhi, if_neg (Int32.not_lt.mpr hr.1), if_pos hr.2, x1, Option.bind_some, z1]
        rfl
    · refine OUT.thr q hc 1 (by omega) (by omega) ?_ ?_
      · unfold s_X5_ifPassed
        rw [m_within, decide_eq_true hr1, Option.bind_some, if_pos rfl, m_within, decide_eq_false hr, Option.bind_some, if_neg Bool.false_ne_true]
        exact bad 1 rfl
      · unfold s_X4_ifPassed_e
        rw [if_neg hlo, if_neg hhi, e14le _ _ hr]
  · refine OUT.thr q hc 1 (by omega) (by omega) ?_ ?_
    · unfold s_X5_ifPassed
      rw [m_within, decide_eq_false hr1, Option.bind_some, if_neg Bool.false_ne_true]
      exact bad 1 rfl
    · unfold s_X4_ifPassed_e
      by_cases h0 : v1 < 1
      · rw [if_pos h0]
      · rw [if_neg h0, if_pos (Int32.not_le.mp fun z => hr1 ⟨Int32.not_lt.mp h0, z⟩)]
theorem p_endsIn {F : Nat} (hF : 6400 < F) {c : Nat} (hc : c < 512) {S : S_X6} {w : S_X5} (q : REL c S w) (v1 : Int32) : OUT c S w (on4 S (s_X4_endsIn F S.1 v1)) (s_X4_endsIn_e F S.1 v1) (s_X5_endsIn F w v1) := by
  obtain ⟨T, n, e, h, m, s, L, ch, hL, r⟩ := id q
  have rx := r.2.2.1
  have hth := rx.1.1.2.2.2.1
  have hs1 : a_X5_state w 1 = nI n := rx.1.1.2.2.2.2.1
  have hn := (WB_e rx.1).2.1
  cases g1 : tT n v1 with
  | false =>
    refine OUT.thr q hc 1 (by omega) (by omega) ?_ ?_
    · unfold s_X5_endsIn
      rw [m_isThing F (by omega) hs1, Option.bind_some, g1, if_neg Bool.false_ne_true]
      unfold s_X5_endsIn_b14
      rw [if_neg (by decide)]; rfl
    · unfold s_X4_endsIn_e
      rw [c_isThing F hth, Option.bind_some, g1, if_neg Bool.false_ne_true]
  | true =>
    obtain ⟨d, hd, rfl⟩ := (tT_iff (by omega)).mp g1
    obtain ⟨x, x1, x2⟩ := x_wouldEnd hF (w := m_X5_thrown 0 w) (u := S.1) rx r.2.2.2.1 r.1
    obtain ⟨z, w', z1, z2, z3⟩ := x2 d (m_X5_thrown 0 w) hd (LK_LA (LK.rf _))
    refine OUT.ok (z := z) (S' := m_X6_g (m_X4_ahead x S.1) S) (w' := w') (REL.look r hL hc (FX.ah S.1 x) z3) z3.1.1 ?_ ?_
    · unfold s_X5_endsIn
      rw [m_isThing F (by omega) hs1, Option.bind_some, g1, if_pos rfl]
      unfold s_X5_endsIn_b14
      rw [if_pos (by decide), z2, Option.bind_some]
    · unfold s_X4_endsIn
      rw [c_isThing F hth, Option.bind_some, g1, if_pos rfl, x1, Option.bind_some, z1]
      rfl
theorem p_ifTried {F : Nat} (hF : 6400 < F) {c : Nat} (hc : c < 512) {S : S_X6} {w : S_X5} (q : REL c S w) (v1 : Int32) : OUT c S w (on4 S (s_X4_ifTried F S.1 v1)) (s_X4_ifTried_e F S.1 v1) (s_X5_ifTried F w v1) := by
  obtain ⟨T, n, e, h, m, s, L, ch, hL, r⟩ := id q
  have rx := r.2.2.1
  by_cases hr : (0 : Int32) ≤ v1 ∧ v1 ≤ 2
  · obtain ⟨p, hp, rfl⟩ := rg_nat hr.1
    have hp2 : p ≤ 2 := (ni_le (b := 2) hp (by omega)).mp hr.2
    obtain ⟨x, x1, x2⟩ := x_wouldTry hF (w := m_X5_thrown 0 w) (u := S.1) rx r.2.2.2.1
    obtain ⟨z, w', z1, z2, z3⟩ := x2 p (by omega)
    refine OUT.ok (z := z) (S' := m_X6_g (m_X4_ahead x S.1) S) (w' := w') (REL.look r hL hc (FX.ah S.1 x) z3) z3.1.1 ?_ ?_
    · unfold s_X5_ifTried
      rw [m_within, decide_eq_true hr, Option.bind_some, if_pos rfl]
      unfold s_X5_ifTried_b15
      rw [if_pos (by decide), z2, Option.bind_some]
    · unfold s_X4_ifTried
      rw [if_neg (Int32.not_lt.mpr hr.1), if_pos hr.2, x1, Option.bind_some, z1]
      rfl
  · refine OUT.thr q hc 1 (by omega) (by omega) ?_ ?_
    · unfold s_X5_ifTried
      rw [m_within, decide_eq_false hr, Option.bind_some, if_neg Bool.false_ne_true]
      unfold s_X5_ifTried_b15
      rw [if_neg (by decide)]; rfl
    · exact e14le _ _ hr
theorem p_ring {F : Nat} (hF : 6400 < F) {c : Nat} (hc : c < 512) {S : S_X6} {w : S_X5} (q : REL c S w) (v1 : Int32) : OUT c S w (on0 S (s_X4_ring F S.1 v1)) (s_X4_ring_e F S.1 v1) (s_X5_ring F w v1) := by
  obtain ⟨T, n, e, h, m, s, L, ch, hL, r⟩ := id q
  have rx := r.2.2.1
  have hth := rx.1.1.2.2.2.1
  have hs1 : a_X5_state w 1 = nI n := rx.1.1.2.2.2.2.1
  have hn := (WB_e rx.1).2.1
  cases g1 : tT n v1 with
  | false =>
    refine OUT.thr q hc 1 (by omega) (by omega) ?_ ?_
    · unfold s_X5_ring
      rw [m_isThing F (by omega) hs1, Option.bind_some, g1, if_neg Bool.false_ne_true]
      unfold s_X5_ring_b14
      rw [if_neg (by decide)]; rfl
    · unfold s_X4_ring_e
      rw [c_isThing F hth, Option.bind_some, g1, if_neg Bool.false_ne_true]
  | true =>
    obtain ⟨d, hd, rfl⟩ := (tT_iff (by omega)).mp g1
    obtain ⟨z, w', z1, z2, z3⟩ := x_ring (F := F) (by omega) (w := m_X5_thrown 0 w) rx hd
    refine OUT.ok (z := z) (S' := S) (w' := w') (REL.look0 r hL hc (LK_LA z3)) z3.1.1 ?_ ?_
    · unfold s_X5_ring
      rw [m_isThing F (by omega) hs1, Option.bind_some, g1, if_pos rfl]
      unfold s_X5_ring_b14
      rw [if_pos (by decide), z2, Option.bind_some]
    · unfold s_X4_ring
      rw [c_isThing F hth, Option.bind_some, g1, if_pos rfl, z1]
      rfl
theorem p_bestCut {F : Nat} (hF : 6400 < F) {c : Nat} (hc : c < 512) {S : S_X6} {w : S_X5} (q : REL c S w) (v1 : Int32) : OUT c S w (on0 S (s_X4_bestCut F S.1 v1)) (s_X4_bestCut_e F S.1 v1) (s_X5_bestCut F w v1) := by
  obtain ⟨T, n, e, h, m, s, L, ch, hL, r⟩ := id q
  have rx := r.2.2.1
  by_cases hr : (0 : Int32) ≤ v1 ∧ v1 ≤ 1
  · obtain ⟨w', z2, z3⟩ := x_cut (F := F) (by omega) (w := m_X5_thrown 0 w) rx v1
    have hh := WX_hOK rx
    refine OUT.ok (S' := S) (w' := w') (REL.look0 r hL hc (LK_LA z3)) z3.1.1 (z := if v1 = 0 then (cutF (cutL F (a_X3_hold (a_X4_now S.1))) 100).1 else (cutF (cutL F (a_X3_hold (a_X4_now S.1))) 100).2) ?_ ?_
    · unfold s_X5_bestCut
      rw [m_within, decide_eq_true hr, Option.bind_some, if_pos rfl]
      unfold s_X5_bestCut_b15
      rw [if_pos (by decide), z2, Option.bind_some]
    · have hb : s_X4_bestCut_b19 F S.1 v1 = some (if v1 = 0 then (cutF (cutL F (a_X3_hold (a_X4_now S.1))) 100).1 else (cutF (cutL F (a_X3_hold (a_X4_now S.1))) 100).2) := by
        unfold s_X4_bestCut_b19
        rw [x0_cut (F := F) (by omega) hh, Option.bind_some]
        by_cases h0 : v1 = 0
        · rw [if_pos h0, if_pos h0]
        · rw [if_neg h0, if_neg h0]
          rcases x0_cut1 (F := F) (by omega) hh with ⟨a1, a2⟩ | ⟨a1, a2⟩
          · rw [if_pos a1, a2]
          · rw [if_neg a1, a2, Option.bind_some]
      have hx : s_X4_bestCut F S.1 v1 = s_X4_bestCut_b19 F S.1 v1 := by
        unfold s_X4_bestCut
        by_cases h0 : v1 = 0
        · rw [if_pos h0]
        · obtain ⟨p, hp, rfl⟩ := rg_nat hr.1
          have hp1 : p ≤ 1 := (ni_le (b := 1) hp (by omega)).mp hr.2
          obtain rfl : p = 1 := by
            by_cases z : p = 0
            · subst z; exact absurd rfl h0
            · omega
          rw [if_neg h0, if_pos (show (nI 1 : Int32) = 1 from rfl)]
      rw [hx, hb]
      rfl
  · refine OUT.thr q hc 1 (by omega) (by omega) ?_ ?_
    · unfold s_X5_bestCut
      rw [m_within, decide_eq_false hr, Option.bind_some, if_neg Bool.false_ne_true]
      unfold s_X5_bestCut_b15
      rw [if_neg (by decide)]; rfl
    · unfold s_X4_bestCut_e
      rw [if_neg (fun z => hr (by rw [z]; decide)), if_neg (fun z => hr (by rw [z]; decide))]
theorem p_bears {F : Nat} (hF : 6400 < F) {c : Nat} (hc : c < 512) {S : S_X6} {w : S_X5} (q : REL c S w) (v1 : Int32) : OUT c S w (on4 S (s_X4_bears F S.1 v1)) (s_X4_bears_e F S.1 v1) (s_X5_bears F w v1) := by
  obtain ⟨T, n, e, h, m, s, L, ch, hL, r⟩ := id q
  have rx := r.2.2.1
  have hth := rx.1.1.2.2.2.1
  have hs1 : a_X5_state w 1 = nI n := rx.1.1.2.2.2.2.1
  have hn := (WB_e rx.1).2.1
  cases g1 : tT n v1 with
  | false =>
    refine OUT.thr q hc 1 (by omega) (by omega) ?_ ?_
    · unfold s_X5_bears
      rw [m_isThing F (by omega) hs1, Option.bind_some, g1, if_neg Bool.false_ne_true]
      unfold s_X5_bears_b14
      rw [if_neg (by decide)]; rfl
    · unfold s_X4_bears_e
      rw [c_isThing F hth, Option.bind_some, g1, if_neg Bool.false_ne_true]
  | true =>
    obtain ⟨d, hd, rfl⟩ := (tT_iff (by omega)).mp g1
    obtain ⟨z, u', w', z1, z2, z3, z4⟩ := x_wouldBear hF (w := m_X5_thrown 0 w) (u := S.1) rx r.2.2.2.1 r.1 (by omega) hd
    refine OUT.ok (z := z) (S' := m_X6_g u' S) (w' := w') (REL.look r hL hc z3 z4) z4.1.1 ?_ ?_
    · unfold s_X5_bears
      rw [m_isThing F (by omega) hs1, Option.bind_some, g1, if_pos rfl]
      unfold s_X5_bears_b14
      rw [if_pos (by decide), z2, Option.bind_some]
    · unfold s_X4_bears
      rw [c_isThing F hth, Option.bind_some, g1, if_pos rfl, z1]
      rfl
