/-! reports heard, on both sides -/
theorem zt1 (w : S_X5) (o : Nat) : zt w 1 o = false := by
  unfold zt
  rw [show ((1 : Int32) == 2) = false from by decide]
  rfl
theorem WX_end1 {F : Nat} (hF : 6100 < F) {B T n e h m : Nat} {u : S_X3} {w : S_X5} (q : WX G0 B T n e h m u (a_X5_state w)) {t : Nat} (ht : t < n) (hl : mb (a_X3_living u) t = true) :
    ∃ m' u' v', s_X3_endThing F u (nI t) (1 <<< (nI t &&& 31)) 1 = some u' ∧ s_X5_ends F w (nI t) 1 = some (m_X5_state v' w) ∧ WX G0 B T n (e + 1) h m' u' v' ∧ EV T u u' := by
  obtain ⟨he, hn, -⟩ := WB_e q.1
  obtain ⟨m', u', v', h1, h2, h3, -, -, h4⟩ := x_ends hF q ht hl (g := 1 <<< (nI t &&& 31)) (how := 1) (Or.inl rfl) (fun o ho => zt1 w o) (fun o ho => by
    rw [mb_one t (by omega) o (by omega)]
    show _ = (false || decide (o = t))
    rw [Bool.false_or]
    by_cases h : t = o
    · rw [decide_eq_true h, decide_eq_true h.symm]
    · rw [decide_eq_false h, decide_eq_false (Ne.symm h)]) (Or.inr fun o ho => rfl)
  exact ⟨m', u', v', h1, h2, h3, h4⟩
set_option maxHeartbeats 1000000 in
theorem x_hear {F : Nat} (hF : 6100 < F) {B T n e h m : Nat} {u : S_X3} {w : S_X5} (q : WX G0 B T n e h (m + 1) u (a_X5_state w)) {i : Nat} (hi : fmR (RV (a_X5_state w)) (m + 1) i) (hdue : du (RV (a_X5_state w) i) ≤ (T : Int)) :
    ∃ e' m' u' v', (∀ N c, c < 1200 → s_X3_hearDue_l2 F (N + 1) u (nI c) = s_X3_hearDue_l2 F N u' (nI (c + 1))) ∧ s_X5_hears F w (nI i) = some (m_X5_state v' w) ∧ WX G0 B T n e' (h + 1) m' u' v' ∧ e ≤ e' ∧ EV T u u' := by
  obtain ⟨qB, qH⟩ := q
  obtain ⟨he, hn, hhm⟩ := WB_e qB
  have hR := qB.2.2.2.2.2.1
  obtain ⟨t, ht, hof⟩ := hR.2.2.2 i hi.1
  have hby := hR.2.1 i hi.1
  have ht24 : t < 24 := by omega
  have htm : a_X3_time u = nI T := qB.1.1
  have hT := qB.1.2.2.1
  obtain ⟨r', hr1, hv, q1⟩ := WB_drop hF qB hi
  obtain ⟨v1, hv1⟩ : ∃ f, f = drV (a_X5_state w) i m := ⟨_, rfl⟩
  rw [← hv1] at hv q1
  obtain ⟨u1, hu1⟩ : ∃ u1, u1 = m_X3_rep r' u := ⟨_, rfl⟩
  rw [← hu1] at q1
  have ec : a_X3_counts u = a_X3_counts u1 := by rw [hu1]
  have eh : a_X3_hold u1 = a_X3_hold u := by rw [hu1]
  have el : a_X3_living u1 = a_X3_living u := by rw [hu1]
  have qH1 : WH G0 n u1 v1 := by
    have : WH G0 n u v1 := WH_v hn qH fun k hk => by rw [hv1, drV_low _ (by omega) (by omega)]
    rw [hu1]; exact this
  have hsrt : (srt (RV (a_X5_state w)) (m + 1))[0]? = some (RV (a_X5_state w) i) := by rw [srt_fm m i hi]; rfl
  have a1 : s_X1_anyDue F (a_X3_rep u) (a_X3_time u) = some true := by
    rw [x1_anyDue hR.1 hi, htm, ni_int (by omega), decide_eq_true hdue]
  have a2 : s_X1_part F (a_X3_rep u) 0 1 = some (nI t) := by
    have := x1_rpt (F := F) hR.1 (j := 0) (p := 1) hsrt (by omega) (by omega)
    rw [show rpt (RV (a_X5_state w) i) 1 = nI t from hof] at this
    exact this
  obtain ⟨y, hy⟩ : ∃ y, y = rby (RV (a_X5_state w) i) := ⟨_, rfl⟩
  rw [← hy] at hby
  have a3 : s_X1_part F (a_X3_rep u) 0 2 = some y := by
    have := x1_rpt (F := F) hR.1 (j := 0) (p := 2) hsrt (by omega) (by omega)
    rw [show rpt (RV (a_X5_state w) i) 2 = y from hy.symm] at this
    exact this
  have hi' : i < 3999 := by have := hi.1; omega
  have b1 : s_X5_reportPart F w (nI i) 1 = some (nI t) := by
    have := x5_rep F w (j := i) (p := 1) hi' (by omega)
    rw [show rpt (RV (a_X5_state w) i) 1 = nI t from hof] at this
    exact this
  have b2 : s_X5_reportPart F w (nI i) 2 = some y := by
    have := x5_rep F w (j := i) (p := 2) hi' (by omega)
    rw [show rpt (RV (a_X5_state w) i) 2 = y from hy.symm] at this
    exact this
  have b3 := WX_lv q1 ht
  rw [el] at b3
  have hstep : ∀ N c, c < 1200 → s_X3_hearDue_l2 F (N + 1) u (nI c) = (if mb (a_X3_living u) t then (if lf_ix (nI t) 24 then (if lf_ix (nI t) 24 then (if 0 ≤ y then s_X3_hearDue_l2 F N (m_X3_counts (upd (a_X3_counts u1) (nI t).toNatClampNeg (a_X3_counts u1 (nI t).toNatClampNeg + y)) u1) (nI c + 1) else ((s_X3_mustEnd F (m_X3_counts (upd (a_X3_counts u1) (nI t).toNatClampNeg (a_X3_counts u1 (nI t).toNatClampNeg + y)) u1) (nI t)).bind fun y6 => (if y6.1 then ((s_X3_endThing F y6.2 (nI t) (1 <<< (nI t &&& 31)) 1).bind fun y7 => (s_X3_hearDue_l2 F N y7 (nI c + 1))) else (s_X3_hearDue_l2 F N y6.2 (nI c + 1))))) else none) else none) else (s_X3_hearDue_l2 F N u1 (nI c + 1))) := by
    intro N c hc
    rw [e_X3_hearDue_l2, if_neg (il_nle hc (by decide)), a1, Option.bind_some, if_pos rfl, a2, Option.bind_some, a3, Option.bind_some, hr1, Option.bind_some, ← hu1, x3_lives F _ ht24, Option.bind_some, el, ec]
  have hmod : s_X5_hears F w (nI i) = (if mb (a_X3_living u) t then ((s_X5_part F (m_X5_state v1 w) (nI t) 2).bind fun y5 => ((s_X5_setPart F (m_X5_state v1 w) (nI t) 2 (y5 + y)).bind fun y6 => (if y ≤ 0 then ((s_X5_part F y6 (nI t) 2).bind fun y7 => (if y7 ≤ 0 then ((s_X5_underWay F y6 (nI t)).bind fun y8 => (if y8 = 0 then ((s_X5_truth F y6 (nI t)).bind fun y9 => (if ((a_X5_state y6) (11 : Int32).toNatClampNeg) = 0 then (s_X5_hears_b96 F y6 (nI t)) else (if y9 = 0 then (s_X5_hears_b96 F y6 (nI t)) else ((s_X5_setPart F y6 (nI t) 2 y9).bind fun y10 => (some (m_X5_state (upd (a_X5_state y10) (7 : Int32).toNatClampNeg (((a_X5_state y10) (7 : Int32).toNatClampNeg) + 1)) y10)))))) else (some (y6)))) else ((s_X5_setPart F y6 (nI t) 3 1).bind fun y11 => (some (y11))))) else (some (y6))))) else (some (m_X5_state v1 w))) := by
    unfold s_X5_hears
    rw [b1, Option.bind_some, b2, Option.bind_some, hv, Option.bind_some, x5_lives F _ ht24, Option.bind_some, show (a_X5_state (m_X5_state v1 w) (17 + 10 * t) == 1) = mb (a_X3_living u) t from b3]
  cases hlv : mb (a_X3_living u) t with
  | false =>
    rw [hlv] at hstep hmod
    refine ⟨e, m, u1, v1, fun N c hc => ?_, ?_, ⟨q1, qH1⟩, Nat.le_refl _, by rw [hu1]; exact EV.of rfl rfl⟩
    · rw [hstep N c hc, if_neg Bool.false_ne_true, ni_1]
    · rw [hmod, if_neg Bool.false_ne_true]
  | true =>
    rw [hlv] at hstep hmod
    have hlv1 : mb (a_X3_living u1) t = true := by rw [el]; exact hlv
    have ht2 : (nI t).toNatClampNeg = t := ni_nat (by omega)
    obtain ⟨cc, hcc⟩ : ∃ cc, cc = a_X3_counts u1 t + y := ⟨_, rfl⟩
    have c0 := q1.2.2.1.2.1 t ht24
    have c0' := qB.2.2.1.2.1 t ht24
    rw [ec] at c0'
    have hci : cc.toInt = (a_X3_counts u1 t).toInt + y.toInt := by
      rw [hcc]
      rcases hby with z | z
      · exact i32_add (by rw [z, i32_1]; omega) (by rw [z, i32_1]; omega)
      · exact i32_add (by rw [z, i32_m1]; omega) (by rw [z, i32_m1]; omega)
    have hcb : -(1300 + ((h + 1 : Nat) : Int)) ≤ cc.toInt ∧ cc.toInt ≤ 1300 + ((h + 1 : Nat) : Int) := by
      rcases hby with z | z
      · rw [hci, z, i32_1]; omega
      · rw [hci, z, i32_m1]; omega
    obtain ⟨u2, hu2⟩ : ∃ u2, u2 = m_X3_counts (upd (a_X3_counts u1) t cc) u1 := ⟨_, rfl⟩
    obtain ⟨v2, hv2⟩ : ∃ f, f = upd v1 (17 + 10 * t + 2) cc := ⟨_, rfl⟩
    have q2 := WB_counts q1 ht hcb
    rw [← hu2, ← hv2] at q2
    have qH2 : WH G0 n u2 v2 := by
      have : WH G0 n u1 v2 := WH_v hn qH1 fun k hk => by rw [hv2, upd_ne _ _ (by omega)]
      rw [hu2]; exact this
    have el2 : a_X3_living u2 = a_X3_living u1 := by rw [hu2]
    have hlv2 : mb (a_X3_living u2) t = true := by rw [el2]; exact hlv1
    have ev2 : EV T u u2 := by rw [hu2, hu1]; exact EV.of rfl rfl
    have d1 : s_X5_part F (m_X5_state v1 w) (nI t) 2 = some (a_X3_counts u1 t) := by
      have h1 := x5_part F (m_X5_state v1 w) (t := t) (p := 2) (by omega)
      rw [show a_X5_state (m_X5_state v1 w) (17 + 10 * t + 2) = a_X3_counts u1 t from (q1.2.2.1.1 t ht).2.2.1] at h1
      exact h1
    have d2 : s_X5_setPart F (m_X5_state v1 w) (nI t) 2 cc = some (m_X5_state v2 w) := by
      have h1 := x5_setPart F (m_X5_state v1 w) (t := t) (p := 2) (by omega) cc
      rw [hv2]; exact h1
    have d3 : s_X5_part F (m_X5_state v2 w) (nI t) 2 = some cc := by
      have h1 := x5_part F (m_X5_state v2 w) (t := t) (p := 2) (by omega)
      rw [show a_X5_state (m_X5_state v2 w) (17 + 10 * t + 2) = cc from by show v2 _ = _; rw [hv2, upd_at]] at h1
      exact h1
    simp only [if_true, if_pos (ni_lx ht24 (by decide)), ht2, ← hcc, ← hu2] at hstep
    simp only [if_true, d1, Option.bind_some, ← hcc, d2, d3] at hmod
    rcases hby with z | z
    · refine ⟨e, m, u2, v2, fun N c hc => ?_, ?_, ⟨q2, qH2⟩, Nat.le_refl _, ev2⟩
      · rw [hstep N c hc, if_pos (by rw [z]; decide), ni_1]
      · rw [hmod, if_neg (by rw [z]; decide)]
    · have hy0 : ¬ 0 ≤ y := by rw [z]; decide
      have hy1 : y ≤ 0 := by rw [z]; decide
      rw [if_pos hy1] at hmod
      have hcu : a_X3_counts u2 t = cc := by rw [hu2]; show upd _ t cc t = cc; rw [upd_at]
      by_cases hc0 : cc ≤ 0
      · rw [if_pos hc0] at hmod
        -- no report under way
        have hR2 := q2.2.2.2.2.2.1
        obtain ⟨b, b4, b5⟩ := x1_anyFor (F := F) (by omega) hR2.1 (1 <<< (nI t &&& 31))
        have b6 := x5_underWay (F := F) (by omega) (m_X5_state v2 w) (m := m) (by omega) q2.1.2.2.2.2.2.2.2.1 (nI t)
        rw [b6, Option.bind_some] at hmod
        have hR3 : RV (a_X5_state (m_X5_state v2 w)) = RV v2 := rfl
        rw [hR3] at hmod
        have b7 : b = true ↔ ∃ j, j < m ∧ rof (RV v2 j) = nI t := by
          rw [b5]
          constructor
          · rintro ⟨j, s, h1, h2, h3, h4⟩
            rw [mb_one t (by omega) s (by omega)] at h4
            exact ⟨j, h1, by rw [h3, of_decide_eq_true h4]⟩
          · rintro ⟨j, h1, h2⟩
            exact ⟨j, t, h1, ht24, h2, by rw [mb_one t (by omega) t (by omega)]; exact decide_eq_true rfl⟩
        cases hb : b with
        | true =>
          obtain ⟨j, hj, hj2⟩ := b7.mp hb
          have hne : ¬ nI (cn (fun j => rof (RV v2 j) == nI t) m) = 0 := by
            intro hz
            have hle := cn_le (fun j => rof (RV v2 j) == nI t) m
            have h0 : cn (fun j => rof (RV v2 j) == nI t) m = 0 := (ni_eq (b := 0) (by omega) (by omega)).mp hz
            have := cn_of0 m h0 j hj
            rw [hj2] at this
            simp at this
          rw [if_neg hne] at hmod
          refine ⟨e, m, u2, v2, fun N c hc => ?_, hmod, ⟨q2, qH2⟩, Nat.le_refl _, ev2⟩
          rw [hstep N c hc, if_neg hy0]
          unfold s_X3_mustEnd
          rw [if_pos (ni_lx ht24 (by decide)), ht2, hcu, if_pos hc0, b4, hb, Option.bind_some, if_pos rfl, Option.bind_some, if_neg Bool.false_ne_true, ni_1]
        | false =>
          have h0 : cn (fun j => rof (RV v2 j) == nI t) m = 0 := cn_zero m fun j hj => by
            cases hq : (rof (RV v2 j) == nI t) with
            | false => rfl
            | true =>
              have := b7.mpr ⟨j, hj, by simpa using hq⟩
              rw [hb] at this; cases this
          rw [h0, if_pos (show nI 0 = 0 from rfl)] at hmod
          have tr := x5_truth (F := F) (by omega) (w := m_X5_state v2 w) ⟨q2, qH2⟩ ht
          rw [hlv2, if_pos rfl] at tr
          rw [tr, Option.bind_some] at hmod
          have ctr := x0_truthOf (F := F) (by omega) (a_X3_hold u2) (nI t)
          obtain ⟨tn, htn⟩ : ∃ tn, tn = cn (fun k => a_X3_hold u2 k == nI t) 100 := ⟨_, rfl⟩
          rw [← htn] at hmod ctr
          have htn2 : tn ≤ 100 := by rw [htn]; exact cn_le _ _
          have set3 : a_X5_state (m_X5_state v2 w) (11 : Int32).toNatClampNeg = a_X3_settings u2 3 := q2.2.1.1 3 (by omega)
          rw [set3] at hmod
          obtain ⟨m', u', v', f1, f2, f3, f4⟩ := WX_end1 hF (w := m_X5_state v2 w) ⟨q2, qH2⟩ ht hlv2
          have hend : s_X5_hears_b96 F (m_X5_state v2 w) (nI t) = some (m_X5_state v' w) := by
            unfold s_X5_hears_b96
            rw [f2, Option.bind_some]
          have i3 : (3 : Int32).toNatClampNeg = 3 := rfl
          by_cases hs3 : a_X3_settings u2 3 = 0
          · rw [if_pos hs3, hend] at hmod
            refine ⟨e + 1, m', u', v', fun N c hc => ?_, hmod, f3, by omega, ev2.tr f4⟩
            rw [hstep N c hc, if_neg hy0]
            unfold s_X3_mustEnd
            rw [if_pos (ni_lx ht24 (by decide)), ht2, hcu, if_pos hc0, b4, hb, Option.bind_some, if_neg Bool.false_ne_true, i3, if_pos hs3]
            unfold s_X3_mustEnd_b59
            rw [if_pos rfl, Option.bind_some, if_pos rfl, f1, Option.bind_some, ni_1]
          · rw [if_neg hs3] at hmod
            by_cases ht0 : tn = 0
            · rw [ht0, if_pos (show nI 0 = 0 from rfl), hend] at hmod
              refine ⟨e + 1, m', u', v', fun N c hc => ?_, hmod, f3, by omega, ev2.tr f4⟩
              rw [hstep N c hc, if_neg hy0]
              unfold s_X3_mustEnd
              rw [if_pos (ni_lx ht24 (by decide)), ht2, hcu, if_pos hc0, b4, hb, Option.bind_some, if_neg Bool.false_ne_true, i3, if_neg hs3, ctr, Option.bind_some, ht0]
              unfold s_X3_mustEnd_b59
              rw [if_pos (show nI 0 = 0 from rfl), Option.bind_some, if_pos rfl, f1, Option.bind_some, ni_1]
            · have hne : ¬ nI tn = 0 := fun hz => ht0 ((ni_eq (b := 0) (by omega) (by omega)).mp hz)
              rw [if_neg hne] at hmod
              obtain ⟨v3, hv3⟩ : ∃ f, f = upd v2 (17 + 10 * t + 2) (nI tn) := ⟨_, rfl⟩
              have d4 : s_X5_setPart F (m_X5_state v2 w) (nI t) 2 (nI tn) = some (m_X5_state v3 w) := by
                have h1 := x5_setPart F (m_X5_state v2 w) (t := t) (p := 2) (by omega) (nI tn)
                rw [hv3]; exact h1
              rw [d4, Option.bind_some] at hmod
              have q3 := WB_counts q2 ht (c := nI tn) (by rw [ni_int (by omega)]; omega)
              rw [← hv3] at q3
              have q4 := WB_found q3
              refine ⟨e, m, _, _, fun N c hc => ?_, hmod, ⟨q4, ?_⟩, Nat.le_refl _, ev2.tr (EV.of rfl rfl)⟩
              · rw [hstep N c hc, if_neg hy0]
                unfold s_X3_mustEnd
                rw [if_pos (ni_lx ht24 (by decide)), ht2, hcu, if_pos hc0, b4, hb, Option.bind_some, if_neg Bool.false_ne_true, i3, if_neg hs3, ctr, Option.bind_some]
                unfold s_X3_mustEnd_b59
                rw [if_neg hne, if_pos (ni_lx ht24 (by decide)), ht2, Option.bind_some, if_neg Bool.false_ne_true, ni_1]
              · have : WH G0 n u2 (upd v3 7 (v3 7 + 1)) := WH_v hn qH2 fun k hk => by rw [upd_ne _ _ (by omega), hv3, upd_ne _ _ (by omega)]
                exact this
      · rw [if_neg hc0] at hmod
        have d4 : s_X5_setPart F (m_X5_state v2 w) (nI t) 3 1 = some (m_X5_state (upd v2 (17 + 10 * t + 3) 1) w) := x5_setPart F (m_X5_state v2 w) (t := t) (p := 3) (by omega) 1
        rw [d4, Option.bind_some] at hmod
        have q3 := WB_susp q2 ht (b := true) (fun _ => hlv2) (s' := a_X3_suspects u2 ||| (1 <<< (nI t &&& 31))) (fun j => mb_set _ (by omega) j)
        refine ⟨e, m, _, _, fun N c hc => ?_, hmod, ⟨q3, ?_⟩, Nat.le_refl _, ev2.tr (EV.of rfl rfl)⟩
        · rw [hstep N c hc, if_neg hy0]
          unfold s_X3_mustEnd
          rw [if_pos (ni_lx ht24 (by decide)), ht2, hcu, if_neg hc0, Option.bind_some, if_neg Bool.false_ne_true, ni_1]
        · have : WH G0 n u2 (upd v2 (17 + 10 * t + 3) 1) := WH_v hn qH2 fun k hk => by rw [upd_ne _ _ (by omega)]
          exact this
/-- nothing is due -/
def ND (T m : Nat) (v : Nat → Int32) : Prop := ∀ j, j < m → (T : Int) < du (RV v j)
theorem x_hearLoop {F : Nat} (hF : 6100 < F) (w : S_X5) : ∀ d h e m u v c N M r, h + d = 1200 → c ≤ h → d < N → d < M → ∀ B T n, WX G0 B T n e h m u v → s_X5_firstDue F (m_X5_state v w) = some r →
    ∃ e' h' m' u' v', s_X3_hearDue_l2 F N u (nI c) = some u' ∧ s_X5_hearDue_l5 F M (m_X5_state v w) r = some (m_X5_state v' w) ∧ WX G0 B T n e' h' m' u' v' ∧ ND T m' v' ∧ e ≤ e' ∧ EV T u u' := by
  intro d
  induction d with
  | zero =>
    intro h e m u v c N M r hd hc hN hM B T n q hr
    obtain ⟨N, rfl⟩ : ∃ j, N = j + 1 := ⟨N - 1, by omega⟩
    obtain ⟨M, rfl⟩ : ∃ j, M = j + 1 := ⟨M - 1, by omega⟩
    obtain ⟨he, hn, hhm⟩ := WB_e q.1
    obtain rfl : m = 0 := by omega
    obtain ⟨r1, g1, g2⟩ := x5_firstDue (F := F) (by omega) (m_X5_state v w) (m := 0) (by omega) q.1.1.2.2.2.2.2.2.2.1
    rw [hr] at g1
    have hrm : r = -1 := by
      rw [Option.some.inj g1]
      rcases g2 with ⟨z, -⟩ | ⟨b, -, z, -⟩
      · exact z
      · have := z.1; omega
    refine ⟨e, h, 0, u, v, ?_, ?_, q, fun j hj => by omega, Nat.le_refl _, EV.of rfl rfl⟩
    · rw [e_X3_hearDue_l2, x1_anyDue0 q.1.2.2.2.2.2.1.1, Option.bind_some, if_neg Bool.false_ne_true]
      by_cases hc2 : (1200 : Int32) ≤ nI c
      · rw [if_pos hc2]
      · rw [if_neg hc2]
    · rw [e_X5_hearDue_l5, hrm, if_pos rfl]
  | succ d ih =>
    intro h e m u v c N M r hd hc hN hM B T n q hr
    obtain ⟨N, rfl⟩ : ∃ j, N = j + 1 := ⟨N - 1, by omega⟩
    obtain ⟨M, rfl⟩ : ∃ j, M = j + 1 := ⟨M - 1, by omega⟩
    obtain ⟨he, hn, hhm⟩ := WB_e q.1
    obtain ⟨r1, g1, g2⟩ := x5_firstDue (F := F) (by omega) (m_X5_state v w) (m := m) (by omega) q.1.1.2.2.2.2.2.2.2.1
    rw [hr] at g1
    have hr1 := Option.some.inj g1
    have hT0 : (a_X5_state (m_X5_state v w) 0).toInt = (T : Int) := by
      rw [show a_X5_state (m_X5_state v w) 0 = nI T from q.1.1.2.1, ni_int (by have := q.1.1.2.2.1; omega)]
    rw [hT0] at g2
    rcases g2 with ⟨z1, z2⟩ | ⟨b, z1, z2, z3⟩
    · refine ⟨e, h, m, u, v, ?_, ?_, q, z2, Nat.le_refl _, EV.of rfl rfl⟩
      · have hany : s_X1_anyDue F (a_X3_rep u) (a_X3_time u) = some false := by
          cases m with
          | zero => exact x1_anyDue0 q.1.2.2.2.2.2.1.1 _
          | succ m =>
            obtain ⟨i, hi⟩ := fm_ex (RV v) m
            rw [x1_anyDue q.1.2.2.2.2.2.1.1 hi, q.1.1.1, ni_int (by have := q.1.1.2.2.1; omega)]
            have := z2 i hi.1
            rw [decide_eq_false]
            intro hle
            have h2 : (T : Int) < du (RV v i) := this
            omega
        rw [e_X3_hearDue_l2, hany, Option.bind_some, if_neg Bool.false_ne_true]
        by_cases hc2 : (1200 : Int32) ≤ nI c
        · rw [if_pos hc2]
        · rw [if_neg hc2]
      · rw [e_X5_hearDue_l5, hr1, z1, if_pos rfl]
    · obtain ⟨m, rfl⟩ : ∃ j, m = j + 1 := ⟨m - 1, by have := z2.1; omega⟩
      obtain ⟨e1, m1, u1, v1, k1, k2, k3, k4, k5⟩ := x_hear hF (w := m_X5_state v w) q z2 z3
      obtain ⟨r2, g3, -⟩ := x5_firstDue (F := F) (by omega) (m_X5_state v1 w) (m := m1) (by have := (WB_e k3.1).2.2; omega) k3.1.1.2.2.2.2.2.2.2.1
      obtain ⟨e2, h2, m2, u2, v2, p1, p2, p3, p4, p5, p6⟩ := ih (h + 1) e1 m1 u1 v1 (c + 1) N M r2 (by omega) (by omega) (by omega) (by omega) B T n k3 g3
      refine ⟨e2, h2, m2, u2, v2, ?_, ?_, p3, p4, by omega, k5.tr p6⟩
      · rw [k1 N c (by omega)]; exact p1
      · rw [e_X5_hearDue_l5, hr1, z1, if_neg (nI_ne (by have := z2.1; omega)), k2, Option.bind_some]
        have g3' : s_X5_firstDue F (m_X5_state v1 (m_X5_state v w)) = some r2 := g3
        rw [g3', Option.bind_some]
        exact p2
theorem x_hearDue {F : Nat} (hF : 6100 < F) {B T n e h m : Nat} {u : S_X3} {w : S_X5} (q : WX G0 B T n e h m u (a_X5_state w)) : ∃ e' h' m' u' v', s_X3_hearDue F u = some u' ∧ s_X5_hearDue F w = some (m_X5_state v' w) ∧ WX G0 B T n e' h' m' u' v' ∧ ND T m' v' ∧ e ≤ e' ∧ EV T u u' := by
  obtain ⟨he, hn, hhm⟩ := WB_e q.1
  obtain ⟨r, g1, -⟩ := x5_firstDue (F := F) (by omega) w (m := m) (by omega) q.1.1.2.2.2.2.2.2.2.1
  obtain ⟨e', h', m', u', v', p1, p2, p3, p4, p5, p6⟩ := x_hearLoop hF w (1200 - h) h e m u (a_X5_state w) 0 F F r (by omega) (by omega) (by omega) (by omega) B T n q g1
  refine ⟨e', h', m', u', v', p1, ?_, p3, p4, p5, p6⟩
  unfold s_X5_hearDue
  rw [g1, Option.bind_some]
  exact p2
