/-! a report heard, in the engine and the model -/
theorem mb0 (o : Nat) : mb 0 o = false := mb_0 o
theorem WX_slot {G : Nat → Bool} {B T n e h m : Nat} {u : S_X3} {v : Nat → Int32} (q : WX G B T n e h m u v) {o k : Nat} (ho : o < n) (hk : k < 4) : v (257 + 4 * o + k) = -1 ∨ ∃ s, s < n ∧ v (257 + 4 * o + k) = nI s := by
  have hn := (WB_e q.1).2.1
  rcases q.2.2.1 o ho k hk with z | ⟨-, -, -, t, z1, z2, -⟩
  · rcases q.2.2.2.1 (4 + 4 * o + k) (by omega) with z2 | ⟨t, z2, z3, -⟩
    · exact Or.inl (z.trans z2)
    · exact Or.inr ⟨t, z2, z.trans z3⟩
  · exact Or.inr ⟨t, z1, z2⟩
theorem e_b126 {F : Nat} (k3 : S_XE → Int32 → Option S_XE) (q th sl re : Nat → Int32) {t : Nat} (ht : t < 6) (v4 y : Int32) :
    s_L_hear_b126 F k3 (q, th, sl, re) v4 (nI t) y = if th (8 * t) == 1 then (if 0 ≤ y then s_L_hear_b186 F k3 (upd q 2 (q 2 - 1), upd th (8 * t + 2) (th (8 * t + 2) + y), sl, re) v4 (nI t) y else (if th (8 * t + 2) + y ≤ 0 then s_L_hear_b186 F k3 (upd q 2 (q 2 - 1), upd th (8 * t + 2) (th (8 * t + 2) + y), sl, re) v4 (nI t) y else s_L_hear_b186 F k3 (upd q 2 (q 2 - 1), upd (upd th (8 * t + 2) (th (8 * t + 2) + y)) (8 * t + 3) 1, sl, re) v4 (nI t) y)) else k3 (upd q 2 (q 2 - 1), th, sl, re) v4 := by
  have e2 : 8 * nI t + 2 = nI (8 * t + 2) := ni_8tp t 2
  have e3 : 8 * nI t + 3 = nI (8 * t + 3) := ni_8tp t 3
  have n2 : (nI (8 * t + 2)).toNatClampNeg = 8 * t + 2 := ni_nat (by omega)
  have n3 : (nI (8 * t + 3)).toNatClampNeg = 8 * t + 3 := ni_nat (by omega)
  unfold s_L_hear_b126
  rw [show s_L_lives F 48 (a_XE_th (q, th, sl, re)) (nI t) = some (th (8 * t) == 1) from e_lives F th ht, Option.bind_some, e2, e3]
  cases th (8 * t) == 1 with
  | false => rw [if_neg Bool.false_ne_true, if_neg Bool.false_ne_true]; rfl
  | true =>
    rw [if_pos rfl, if_pos rfl, if_pos (ni_lx (show 8 * t + 2 < 48 by omega) (by decide)), if_pos (ni_lx (show 8 * t + 2 < 48 by omega) (by decide))]
    by_cases hy : 0 ≤ y
    · rw [if_pos hy, if_pos hy, n2]; rfl
    · rw [if_neg hy, if_neg hy]
      dsimp only [lf_let]
      rw [if_pos (ni_lx (show 8 * t + 2 < 48 by omega) (by decide))]
      have hz : a_XE_th (m_XE_th (upd (a_XE_th (q, th, sl, re)) (nI (8 * t + 2)).toNatClampNeg (a_XE_th (q, th, sl, re) (nI (8 * t + 2)).toNatClampNeg + y)) (m_XE_q (upd (a_XE_q (q, th, sl, re)) (2 : Int32).toNatClampNeg (a_XE_q (q, th, sl, re) (2 : Int32).toNatClampNeg - 1)) (q, th, sl, re))) (nI (8 * t + 2)).toNatClampNeg = th (8 * t + 2) + y := by
        rw [n2]
        show upd th (8 * t + 2) (th (8 * t + 2) + y) (8 * t + 2) = _
        rw [upd_at]
      by_cases hc : th (8 * t + 2) + y ≤ 0
      · rw [if_pos hc, if_pos (show _ ≤ (0 : Int32) from by rw [hz]; exact hc), n2]; rfl
      · rw [if_neg hc, if_neg (show ¬ _ ≤ (0 : Int32) from by rw [hz]; exact hc), if_pos (ni_lx (show 8 * t + 3 < 48 by omega) (by decide)), n2, n3]; rfl
set_option maxHeartbeats 1000000 in
theorem e_hears {F : Nat} (hF : 6400 < F) {B T e h m : Nat} (hB : B ≤ 32) {u : S_X3} {w : S_X5} {E : S_XE} (q : WX G0 B T 6 e h (m + 1) u (a_X5_state w)) (em : EM 6 (m + 1) (a_X5_state w) E) {i : Nat} (hi : fmR (RV (a_X5_state w)) (m + 1) i) :
    ∃ v' E' m', s_X5_hears F w (nI i) = some (m_X5_state v' w) ∧ (∀ k3, s_L_hear_b62 F k3 E (nI i) = k3 E' (nI i)) ∧ EM 6 m' v' E' ∧ v' 3 = nI m' ∧ m' ≤ 100 := by
  obtain ⟨qB, qH⟩ := q
  obtain ⟨he, hn, hhm⟩ := WB_e qB
  have hbud := qB.2.2.2.2.2.2.1
  have hR := qB.2.2.2.2.2.1
  obtain ⟨t, ht, hof⟩ := hR.2.2.2 i hi.1
  have ht24 : t < 24 := by omega
  obtain ⟨r', hr1, hv, q1⟩ := WB_drop (F := F) (by omega) qB hi
  have him : i ≤ m := by have := hi.1; omega
  have em1 := em.drop (i := i) him qB.1.2.2.2.2.2.2.2.1
  obtain ⟨v1, hv1⟩ : ∃ f, f = drV (a_X5_state w) i m := ⟨_, rfl⟩
  rw [← hv1] at hv q1 em1
  obtain ⟨u1, hu1⟩ : ∃ u1, u1 = m_X3_rep r' u := ⟨_, rfl⟩
  rw [← hu1] at q1
  have el : a_X3_living u1 = a_X3_living u := by rw [hu1]
  have qH1 : WH G0 6 u1 v1 := by
    have : WH G0 6 u v1 := WH_v hn qH fun k hk => by rw [hv1, drV_low _ (by omega) (by omega)]
    rw [hu1]; exact this
  have hpk := em.2.2.2.1 i hi.1
  obtain ⟨bb, hbb1, hbb2⟩ := hpk.by (by omega)
  obtain ⟨y, hy⟩ : ∃ y : Int32, y = if bb then 1 else -1 := ⟨_, rfl⟩
  rw [← hy] at hbb2
  have hi' : i < 3999 := by omega
  have b1 : s_X5_reportPart F w (nI i) 1 = some (nI t) := by
    have := x5_rep F w (j := i) (p := 1) hi' (by omega)
    rw [show rpt (RV (a_X5_state w) i) 1 = nI t from hof] at this
    exact this
  have b2 : s_X5_reportPart F w (nI i) 2 = some y := by
    have := x5_rep F w (j := i) (p := 2) hi' (by omega)
    rw [show rpt (RV (a_X5_state w) i) 2 = y from hbb2] at this
    exact this
  obtain ⟨Q1, hQ1⟩ : ∃ Q1, Q1 = upd E.1 2 (E.1 2 - 1) := ⟨_, rfl⟩
  obtain ⟨re1, hre1⟩ : ∃ re1 : Nat → Int32, re1 = fun j => if i ≤ j ∧ j < m then E.2.2.2 (j + 1) else E.2.2.2 j := ⟨_, rfl⟩
  rw [← hQ1, ← hre1] at em1
  -- the engine comes to the report
  have heng : ∀ k3, s_L_hear_b62 F k3 E (nI i) = s_L_hear_b126 F k3 (E.1, E.2.1, E.2.2.1, re1) (nI i) (nI t) y := by
    intro k3
    have hin : (nI i).toNatClampNeg = i := ni_nat (by omega)
    have hix : lf_ix (nI i) 64 := ni_lx (show i < 64 by omega) (by decide)
    have hof' : (a_XE_re E i / 2) - (a_XE_re E i / 2) / 8 * 8 = nI t := (hpk.t (by omega)).trans hof
    have hs := e_shift (F := F) hF (m := m) (i := i) (by omega) him (q := E.1) (th := E.2.1) (sl := E.2.2.1) (re := E.2.2.2) (by rw [em.1.1.2.2.1]; exact qB.1.2.2.2.2.2.2.2.1) (nI i) (nI t)
    have hbb1' : a_XE_re E i - a_XE_re E i / 2 * 2 = nI (bN bb) := hbb1
    unfold s_L_hear_b62
    rw [if_pos (Int32.not_lt.mp (ni_nneg (by omega))), if_pos hix, if_pos hix]
    simp only [hin, hof', hbb1']
    rw [hre1]
    cases bb with
    | true =>
      rw [if_pos (show nI (bN true) = 1 from rfl), hy, if_pos rfl]
      exact hs 1 k3
    | false =>
      rw [if_neg (show ¬ nI (bN false) = 1 by decide), hy, if_neg Bool.false_ne_true]
      exact hs (-1) k3
  have hlive : (E.2.1 (8 * t) == 1) = mb (a_X3_living u) t := by
    rw [(em.2.1 t ht).1]; exact WX_lv qB ht
  have heng2 : ∀ k3, s_L_hear_b62 F k3 E (nI i) = _ := fun k3 => (heng k3).trans (e_b126 k3 E.1 E.2.1 E.2.2.1 re1 ht (nI i) y)
  simp only [← hQ1, hlive] at heng2
  have b3 := WX_lv q1 ht
  rw [el] at b3
  have hmod : s_X5_hears F w (nI i) = (if mb (a_X3_living u) t then ((s_X5_part F (m_X5_state v1 w) (nI t) 2).bind fun y5 => ((s_X5_setPart F (m_X5_state v1 w) (nI t) 2 (y5 + y)).bind fun y6 => (if y ≤ 0 then ((s_X5_part F y6 (nI t) 2).bind fun y7 => (if y7 ≤ 0 then ((s_X5_underWay F y6 (nI t)).bind fun y8 => (if y8 = 0 then ((s_X5_truth F y6 (nI t)).bind fun y9 => (if ((a_X5_state y6) (11 : Int32).toNatClampNeg) = 0 then (s_X5_hears_b96 F y6 (nI t)) else (if y9 = 0 then (s_X5_hears_b96 F y6 (nI t)) else ((s_X5_setPart F y6 (nI t) 2 y9).bind fun y10 => (some (m_X5_state (upd (a_X5_state y10) (7 : Int32).toNatClampNeg (((a_X5_state y10) (7 : Int32).toNatClampNeg) + 1)) y10)))))) else (some (y6)))) else ((s_X5_setPart F y6 (nI t) 3 1).bind fun y11 => (some (y11))))) else (some (y6))))) else (some (m_X5_state v1 w))) := by
    unfold s_X5_hears
    rw [b1, Option.bind_some, b2, Option.bind_some, hv, Option.bind_some, x5_lives F _ ht24, Option.bind_some, show (a_X5_state (m_X5_state v1 w) (17 + 10 * t) == 1) = mb (a_X3_living u) t from b3]
  have hm1 : v1 3 = nI m := q1.1.2.2.2.2.2.2.2.1
  cases hlv : mb (a_X3_living u) t with
  | false =>
    rw [hlv, if_neg Bool.false_ne_true] at hmod
    simp only [hlv, Bool.false_eq_true, if_false] at heng2
    exact ⟨v1, _, m, hmod, heng2, em1, hm1, by omega⟩
  | true =>
    rw [hlv] at hmod
    simp only [hlv, if_true] at heng2
    have hlv1 : mb (a_X3_living u1) t = true := by rw [el]; exact hlv
    obtain ⟨cc, hcc⟩ : ∃ cc, cc = v1 (17 + 10 * t + 2) + y := ⟨_, rfl⟩
    have ecnt : v1 (17 + 10 * t + 2) = a_X3_counts u1 t := (q1.2.2.1.1 t ht).2.2.1
    have hth2 : E.2.1 (8 * t + 2) + y = cc := by
      rw [hcc, ← (em1.2.1 t ht).2.2.1]
    have hbyv : y = 1 ∨ y = -1 := by
      rw [hy]; cases bb
      · exact Or.inr rfl
      · exact Or.inl rfl
    have c0 := q1.2.2.1.2.1 t ht24
    have c0' := qB.2.2.1.2.1 t ht24
    have ec : a_X3_counts u = a_X3_counts u1 := by rw [hu1]
    rw [ec] at c0'
    have hci : cc.toInt = (a_X3_counts u1 t).toInt + y.toInt := by
      rw [hcc, ecnt]
      rcases hbyv with z | z
      · exact i32_add (by rw [z, i32_1]; omega) (by rw [z, i32_1]; omega)
      · exact i32_add (by rw [z, i32_m1]; omega) (by rw [z, i32_m1]; omega)
    have hcb : -(1300 + ((h + 1 : Nat) : Int)) ≤ cc.toInt ∧ cc.toInt ≤ 1300 + ((h + 1 : Nat) : Int) := by
      rcases hbyv with z | z
      · rw [hci, z, i32_1]; omega
      · rw [hci, z, i32_m1]; omega
    obtain ⟨u2, hu2⟩ : ∃ u2, u2 = m_X3_counts (upd (a_X3_counts u1) t cc) u1 := ⟨_, rfl⟩
    obtain ⟨v2, hv2⟩ : ∃ f, f = upd v1 (17 + 10 * t + 2) cc := ⟨_, rfl⟩
    have q2 := WB_counts q1 ht hcb
    rw [← hu2, ← hv2] at q2
    have qH2 : WH G0 6 u2 v2 := by
      have : WH G0 6 u1 v2 := WH_v hn qH1 fun k hk => by rw [hv2, upd_ne _ _ (by omega)]
      rw [hu2]; exact this
    have el2 : a_X3_living u2 = a_X3_living u1 := by rw [hu2]
    have hlv2 : mb (a_X3_living u2) t = true := by rw [el2]; exact hlv1
    have em2 := em1.part ht (p := 2) (Or.inl rfl) cc
    rw [← hv2] at em2
    obtain ⟨th2, hth⟩ : ∃ th2, th2 = upd E.2.1 (8 * t + 2) cc := ⟨_, rfl⟩
    have em2' : EM 6 m v2 (Q1, th2, E.2.2.1, re1) := by rw [hth]; exact em2
    rw [hth2, ← hth] at heng2
    have th22 : th2 (8 * t + 2) = cc := by rw [hth, upd_at]
    have q12 : WX G0 B T 6 e (h + 1) m u2 v2 := ⟨q2, qH2⟩
    have eh2 : EH u2 th2 E.2.2.1 := EH.of q12 em2'
    have hm2 : v2 3 = nI m := by rw [hv2, upd_ne _ _ (by omega)]; exact hm1
    have d1 : s_X5_part F (m_X5_state v1 w) (nI t) 2 = some (v1 (17 + 10 * t + 2)) := x5_part F (m_X5_state v1 w) (t := t) (p := 2) (by omega)
    have d2 : s_X5_setPart F (m_X5_state v1 w) (nI t) 2 cc = some (m_X5_state v2 w) := by
      have h1 := x5_setPart F (m_X5_state v1 w) (t := t) (p := 2) (by omega) cc
      rw [hv2]; exact h1
    have d3 : s_X5_part F (m_X5_state v2 w) (nI t) 2 = some cc := by
      have h1 := x5_part F (m_X5_state v2 w) (t := t) (p := 2) (by omega)
      rw [show a_X5_state (m_X5_state v2 w) (17 + 10 * t + 2) = cc from by show v2 _ = _; rw [hv2, upd_at]] at h1
      exact h1
    simp only [if_true, d1, Option.bind_some, ← hcc, d2, d3] at hmod
    have n2 : (nI (8 * t + 2)).toNatClampNeg = 8 * t + 2 := ni_nat (by omega)
    have e82 : 8 * nI t + 2 = nI (8 * t + 2) := ni_8tp t 2
    rcases hbyv with z | z
    · rw [if_neg (by rw [z]; decide)] at hmod
      refine ⟨v2, _, m, hmod, fun k3 => ?_, em2', hm2, by omega⟩
      rw [heng2 k3, if_pos (by rw [z]; decide)]
      unfold s_L_hear_b186
      rw [if_pos (by rw [z]; decide)]
    · have hy0 : ¬ 0 ≤ y := by rw [z]; decide
      have hy1 : y ≤ 0 := by rw [z]; decide
      have hy2 : ¬ 0 < y := by rw [z]; decide
      rw [if_pos hy1] at hmod
      simp only [if_neg hy0] at heng2
      by_cases hc0 : cc ≤ 0
      · rw [if_pos hc0] at hmod
        simp only [if_pos hc0] at heng2
        have b6 := x5_underWay (F := F) (by omega) (m_X5_state v2 w) (m := m) (by omega) hm2 (nI t)
        rw [b6, Option.bind_some] at hmod
        have hR3 : RV (a_X5_state (m_X5_state v2 w)) = RV v2 := rfl
        rw [hR3] at hmod
        have c6 := e_underWay (F := F) (m := m) hF (by omega) (f := Q1) (g := re1) (R := RV v2) (by rw [show Q1 2 = v2 3 from em2'.1.1.2.2.1]; exact hm2) em2'.2.2.2.1 (nI t)
        obtain ⟨uw, huw⟩ : ∃ uw, uw = cn (fun j => rof (RV v2 j) == nI t) m := ⟨_, rfl⟩
        have huwm : uw ≤ m := by rw [huw]; exact cn_le _ _
        rw [← huw] at hmod c6
        have heng3 : ∀ k3, s_L_hear_b186 F k3 (Q1, th2, E.2.2.1, re1) (nI i) (nI t) y = if nI uw ≤ 0 then ((s_L_truth F 48 28 th2 E.2.2.1 (nI t)).bind fun y2 => (if (Q1 10) = 1 then (if y2 ≤ 0 then (s_L_hear_b260 F k3 (Q1, th2, E.2.2.1, re1) (nI i) (nI t)) else (k3 (upd Q1 6 (Q1 6 + 1), upd th2 (8 * t + 2) y2, E.2.2.1, re1) (nI i))) else (s_L_hear_b260 F k3 (Q1, th2, E.2.2.1, re1) (nI i) (nI t)))) else k3 (Q1, th2, E.2.2.1, re1) (nI i) := by
          intro k3
          have hc1 : ¬ (0 : Int32) < a_XE_th (Q1, th2, E.2.2.1, re1) (nI (8 * t + 2)).toNatClampNeg := by
            rw [n2]
            show ¬ (0 : Int32) < th2 (8 * t + 2)
            rw [th22]; exact Int32.not_lt.mpr hc0
          have c6' : s_L_underWay F 12 64 (a_XE_q (Q1, th2, E.2.2.1, re1)) (a_XE_re (Q1, th2, E.2.2.1, re1)) (nI t) = some (nI uw) := c6
          unfold s_L_hear_b186
          rw [if_neg hy2, e82, if_pos (ni_lx (show 8 * t + 2 < 48 by omega) (by decide)), if_neg hc1, c6', Option.bind_some]
          by_cases hz : nI uw ≤ 0
          · rw [if_pos hz, if_pos hz]
            refine congrArg _ (funext fun y2 => ?_)
            rw [if_pos (ni_lx (show 8 * t + 2 < 48 by omega) (by decide)), n2]
            rfl
          · rw [if_neg hz, if_neg hz]
        by_cases hu0 : uw = 0
        · have hz0 : nI uw = 0 := by rw [hu0]; rfl
          rw [if_pos hz0] at hmod
          have hle : nI uw ≤ 0 := by rw [hz0]; exact Int32.le_refl _
          have tr := x5_truth (F := F) (by omega) (w := m_X5_state v2 w) q12 ht
          rw [hlv2, if_pos rfl] at tr
          have etr := e_truth hF eh2 ht
          rw [hlv2, if_pos rfl] at etr
          obtain ⟨tn, htn⟩ : ∃ tn, tn = cn (fun k => a_X3_hold u2 k == nI t) 100 := ⟨_, rfl⟩
          rw [← htn] at tr etr
          have htn2 : tn ≤ 100 := by rw [htn]; exact cn_le _ _
          rw [tr, Option.bind_some] at hmod
          have set3 : a_X5_state (m_X5_state v2 w) (11 : Int32).toNatClampNeg = a_X3_settings u2 3 := q2.2.1.1 3 (by omega)
          rw [set3] at hmod
          have q10 : Q1 10 = a_X3_settings u2 3 := (em2'.1.2 3 (by omega)).trans (q2.2.1.1 3 (by omega))
          have hset := q2.2.1.2.2.1
          obtain ⟨m3, v3, E3, f1, f2, f3, f4, f5⟩ := e_end hF (w := m_X5_state v2 w) (MB.of q2) q2.1.2.2.2.2.2.2.2.2.2.1 (by omega) q2.1.2.2.2.2.1 em2' (by omega) ht (mask := 0) (how := 1) (Or.inl ⟨rfl, rfl⟩) (fun o ho => by rw [zt1, mb_0]) (fun j hj => WX_slot q12 ht hj)
          have hend : s_X5_hears_b96 F (m_X5_state v2 w) (nI t) = some (m_X5_state v3 w) := by
            unfold s_X5_hears_b96
            rw [f1, Option.bind_some]
          have hendE : ∀ k3, s_L_hear_b260 F k3 (Q1, th2, E.2.2.1, re1) (nI i) (nI t) = k3 E3 (nI i) := fun k3 => by
            unfold s_L_hear_b260
            rw [f2, Option.bind_some]
          simp only [heng3, if_pos hle, etr, Option.bind_some, q10, hendE] at heng2
          by_cases hs3 : a_X3_settings u2 3 = 0
          · rw [if_pos hs3, hend] at hmod
            refine ⟨v3, E3, m3, hmod, fun k3 => ?_, f3, f4.2.2.2.1, by omega⟩
            rw [heng2 k3, if_neg (by rw [hs3]; decide)]
          · have hs31 : a_X3_settings u2 3 = 1 := hset.resolve_left hs3
            rw [if_neg hs3] at hmod
            simp only [if_pos hs31] at heng2
            by_cases ht0 : tn = 0
            · have hz : nI tn = 0 := by rw [ht0]; rfl
              rw [if_pos hz, hend] at hmod
              refine ⟨v3, E3, m3, hmod, fun k3 => ?_, f3, f4.2.2.2.1, by omega⟩
              rw [heng2 k3, if_pos (by rw [hz]; exact Int32.le_refl _)]
            · have hne : ¬ nI tn = 0 := fun hz => ht0 ((ni_eq (b := 0) (by omega) (by omega)).mp hz)
              have hne2 : ¬ nI tn ≤ 0 := fun hz => ht0 (by have := (ni_le (b := 0) (by omega) (by omega)).mp hz; omega)
              rw [if_neg hne] at hmod
              simp only [if_neg hne2] at heng2
              obtain ⟨v4, hv4⟩ : ∃ f, f = upd v2 (17 + 10 * t + 2) (nI tn) := ⟨_, rfl⟩
              have d4 : s_X5_setPart F (m_X5_state v2 w) (nI t) 2 (nI tn) = some (m_X5_state v4 w) := by
                have h1 := x5_setPart F (m_X5_state v2 w) (t := t) (p := 2) (by omega) (nI tn)
                rw [hv4]; exact h1
              rw [d4, Option.bind_some] at hmod
              have em4 := (em2'.part ht (p := 2) (Or.inl rfl) (nI tn)).found
              rw [← hv4] at em4
              refine ⟨_, _, m, hmod, heng2, em4, ?_, by omega⟩
              show upd v4 7 _ 3 = _
              rw [upd_ne _ _ (by omega), hv4, upd_ne _ _ (by omega)]; exact hm2
        · have hne : ¬ nI uw = 0 := fun hz => hu0 ((ni_eq (b := 0) (by omega) (by omega)).mp hz)
          have hne2 : ¬ nI uw ≤ 0 := fun hz => hu0 (by have := (ni_le (b := 0) (by omega) (by omega)).mp hz; omega)
          rw [if_neg hne] at hmod
          simp only [heng3, if_neg hne2] at heng2
          exact ⟨v2, _, m, hmod, heng2, em2', hm2, by omega⟩
      · rw [if_neg hc0] at hmod
        simp only [if_neg hc0] at heng2
        have d4 : s_X5_setPart F (m_X5_state v2 w) (nI t) 3 1 = some (m_X5_state (upd v2 (17 + 10 * t + 3) 1) w) := x5_setPart F (m_X5_state v2 w) (t := t) (p := 3) (by omega) 1
        rw [d4, Option.bind_some] at hmod
        have em3 := em2'.part ht (p := 3) (Or.inr rfl) 1
        refine ⟨_, (Q1, upd th2 (8 * t + 3) 1, E.2.2.1, re1), m, hmod, fun k3 => ?_, em3, by rw [upd_ne _ _ (by omega)]; exact hm2, by omega⟩
        rw [heng2 k3]
        have hc1 : (0 : Int32) < a_XE_th (Q1, upd th2 (8 * t + 3) 1, E.2.2.1, re1) (nI (8 * t + 2)).toNatClampNeg := by
          rw [n2]
          show (0 : Int32) < upd th2 (8 * t + 3) 1 (8 * t + 2)
          rw [upd_ne _ _ (by omega), th22]; exact Int32.not_le.mp hc0
        unfold s_L_hear_b186
        rw [if_neg hy2, e82, if_pos (ni_lx (show 8 * t + 2 < 48 by omega) (by decide)), if_pos hc1]
