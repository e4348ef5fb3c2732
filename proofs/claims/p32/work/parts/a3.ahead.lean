/-! what the class foresees, told by the engine -/
section
variable {F B T e h m : Nat} {u : S_X4} {v : Nat → Int32} {E : S_XE}
theorem ni_200 : (200 : Int32) = nI 200 := rfl
theorem ni_30 : (30 : Int32) = nI 30 := rfl
theorem k_endsIn (hF : 6400 < F) (q : KE B T e h m (a_X4_now u) v E) (nd : ND T m v) {t : Nat} (ht : t < 6) :
    ∃ (z : Int32) (u' : S_X4) (Es : Nat → S_XE), s_X4_endsIn F u (nI t) = some (z, u') ∧ FX u u' ∧ Es 0 = E ∧ (∀ k, k < 200 → s_L_tick F (Es k) = some (Es (k + 1))) ∧
      (((Es 0).2.1 (8 * t) == 1) = false → z = 0) ∧ (∀ k, k < 200 → ((Es k).2.1 (8 * t) == 1) = true → ((Es (k + 1)).2.1 (8 * t) == 1) = false → z = nI (k + 1)) ∧ (((Es 200).2.1 (8 * t) == 1) = true → z = -1) ∧ ∀ k, k < 200 → ((Es k).2.1 (8 * t) == 1) = false → ((Es (k + 1)).2.1 (8 * t) == 1) = false := by
  obtain ⟨q1, em, hB, hT⟩ := q
  have qq : KE B T e h m (a_X4_now u) v E := ⟨q1, em, hB, hT⟩
  obtain ⟨x, x1, x2, x3⟩ := x3_copyFrom (F := F) (a_X4_ahead u) q1
  obtain ⟨U, V, Es, es, hs, ms, a1, a2, a3, a4, a5, a6, ch⟩ := chain hF hB x3 nd em 200 (by omega)
  have hp := ch.pass hF (c := 200) (Nat.le_refl _) (Nat.le_refl _)
  rw [a1] at hp
  have lv : ∀ k, k ≤ 200 → ((Es k).2.1 (8 * t) == 1) = mb (a_X3_living (U k)) t := fun k hk => ch.lives hk ht
  have l0 : mb (a_X3_living (U 0)) t = mb (a_X3_living (a_X4_now u)) t := by rw [a1, x2.1.2.2.1]
  have htm : a_X3_time (a_X4_now u) = nI T := q1.1.1.1
  have mono : ∀ k, k < 200 → mb (a_X3_living (U k)) t = false → mb (a_X3_living (U (k + 1))) t = false := fun k hk hz => (ch.dead hz 1 (by omega)).1
  have hfor : s_X4_foresee F u 200 = some (m_X4_ahead (U 200) u) := by
    unfold s_X4_foresee
    rw [x1, Option.bind_some, ni_200, hp, Option.bind_some]
  have hend : s_X4_endsIn F u (nI t) = (if mb (a_X3_living (a_X4_now u)) t then (if mb (a_X3_living (U 200)) t then some (-1, m_X4_ahead (U 200) u) else some (a_X3_endTimes (U 200) t - nI T, m_X4_ahead (U 200) u)) else some (0, m_X4_ahead (U 200) u)) := by
    unfold s_X4_endsIn
    rw [c_isThing F qq.th, tT_in (by omega) ht, Option.bind_some, if_pos rfl, hfor, Option.bind_some]
    unfold s_X4_foreseenEnd
    have h1 : s_X3_lives F (a_X4_now (m_X4_ahead (U 200) u)) (nI t) = some (mb (a_X3_living (a_X4_now u)) t) := x3_lives F _ (by omega)
    have h2 : s_X3_lives F (a_X4_ahead (m_X4_ahead (U 200) u)) (nI t) = some (mb (a_X3_living (U 200)) t) := x3_lives F _ (by omega)
    rw [h1, Option.bind_some, h2, Option.bind_some]
    cases mb (a_X3_living (a_X4_now u)) t with
    | false => rw [if_neg Bool.false_ne_true, if_neg Bool.false_ne_true]; rfl
    | true =>
      rw [if_pos rfl, if_pos rfl]
      cases mb (a_X3_living (U 200)) t with
      | true => rw [if_pos rfl, if_pos rfl]; rfl
      | false =>
        rw [if_neg Bool.false_ne_true, if_neg Bool.false_ne_true, if_pos (ni_lx (show t < 24 by omega) (by decide)), ni_nat (by omega)]
        show some (a_X3_endTimes (U 200) t - a_X3_time (a_X4_now u), m_X4_ahead (U 200) u) = _
        rw [htm]
  have fin : ∃ z, s_X4_endsIn F u (nI t) = some (z, m_X4_ahead (U 200) u) ∧ (mb (a_X3_living (U 0)) t = false → z = 0) ∧ (∀ k, k < 200 → mb (a_X3_living (U k)) t = true → mb (a_X3_living (U (k + 1))) t = false → z = nI (k + 1)) ∧ (mb (a_X3_living (U 200)) t = true → z = -1) := by
    have alive0 : ∀ k, k ≤ 200 → mb (a_X3_living (U k)) t = true → mb (a_X3_living (U 0)) t = true := fun k hk hz => by
      cases h0 : mb (a_X3_living (U 0)) t with
      | true => rfl
      | false =>
        have := (ch.dead h0 k (by omega)).1
        rw [Nat.zero_add, hz] at this
        cases this
    cases hl : mb (a_X3_living (a_X4_now u)) t with
    | false =>
      rw [hl, if_neg Bool.false_ne_true] at hend
      refine ⟨0, hend, fun _ => rfl, fun k hk z1 _ => ?_, fun z1 => ?_⟩
      · have := alive0 k (by omega) z1
        rw [l0, hl] at this; cases this
      · have := alive0 200 (Nat.le_refl _) z1
        rw [l0, hl] at this; cases this
    | true =>
      rw [hl, if_pos rfl] at hend
      cases h2 : mb (a_X3_living (U 200)) t with
      | true =>
        rw [h2, if_pos rfl] at hend
        refine ⟨-1, hend, fun z => ?_, fun k hk _ z2 => ?_, fun _ => rfl⟩
        · rw [l0, hl] at z; cases z
        · have := (ch.dead z2 (200 - (k + 1)) (by omega)).1
          rw [show k + 1 + (200 - (k + 1)) = 200 by omega, h2] at this
          cases this
      | false =>
        rw [h2, if_neg Bool.false_ne_true] at hend
        refine ⟨_, hend, fun z => ?_, fun k hk z1 z2 => ?_, fun z => by cases z⟩
        · rw [l0, hl] at z; cases z
        · rw [(ch.died hk z1 z2).2, ni_sub (by omega)]
          congr 1; omega
  obtain ⟨z, f1, f2, f3, f4⟩ := fin
  refine ⟨z, _, Es, f1, FX.ah u (U 200), a3, fun k hk => (ch.2 k hk).2.1, fun z => f2 (by rw [← lv 0 (by omega)]; exact z), fun k hk z1 z2 => f3 k hk (by rw [← lv k (by omega)]; exact z1) (by rw [← lv (k + 1) (by omega)]; exact z2), fun z => f4 (by rw [← lv 200 (Nat.le_refl _)]; exact z), fun k hk z => ?_⟩
  rw [lv (k + 1) (by omega)]
  exact mono k hk (by rw [← lv k (by omega)]; exact z)
/-- a look ahead by some ticks -/
theorem k_foresee (hF : 6400 < F) (q : KE B T e h m (a_X4_now u) v E) (nd : ND T m v) {Es : Nat → S_XE} (h0 : Es 0 = E) {c : Nat} (hc : c ≤ 100) (hE : ∀ k, k < c → s_L_tick F (Es k) = some (Es (k + 1))) :
    ∃ y e' h' m' v', s_X4_foresee F u (nI c) = some (m_X4_ahead y u) ∧ WX G0 B (T + c) 6 e' h' m' y v' ∧ ND (T + c) m' v' ∧ EM 6 m' v' (Es c) ∧ ∀ t, t < 6 → ((Es c).2.1 (8 * t) == 1) = mb (a_X3_living y) t := by
  obtain ⟨q1, em, hB, hT⟩ := q
  obtain ⟨x, x1, x2, x3⟩ := x3_copyFrom (F := F) (a_X4_ahead u) q1
  obtain ⟨U, V, Es', es, hs, ms, a1, a2, a3, a4, a5, a6, ch⟩ := chain hF hB x3 nd em c (by omega)
  have hp := ch.pass hF (c := c) (Nat.le_refl _) (by omega)
  rw [a1] at hp
  have hEE := tick_unique (F := F) (n := c) (A := Es') (C := Es) (a3.trans h0.symm) (fun k hk => (ch.2 k hk).2.1) hE c (Nat.le_refl _)
  obtain ⟨c1, c2, c3⟩ := ch.1 c (Nat.le_refl _)
  refine ⟨U c, es c, hs c, ms c, V c, ?_, c1, c2, by rw [← hEE]; exact c3, fun t ht => by rw [← hEE]; exact ch.lives (Nat.le_refl _) ht⟩
  unfold s_X4_foresee
  rw [x1, Option.bind_some, hp, Option.bind_some]
theorem k_ifPassed (hF : 6400 < F) (q : KE B T e h m (a_X4_now u) v E) (nd : ND T m v) {Es : Nat → S_XE} (h0 : Es 0 = E) {c : Nat} (hc1 : 1 ≤ c) (hc : c ≤ 100) (hE : ∀ k, k < c → s_L_tick F (Es k) = some (Es (k + 1))) :
    ∃ y r, s_X4_ifPassed F u (nI c) 0 = some ((Es c).1 3 - E.1 3, m_X4_ahead y u) ∧ s_X4_ifPassed F u (nI c) 1 = some ((Es c).1 5 - E.1 5, m_X4_ahead y u) ∧ s_X4_ifPassed F u (nI c) 2 = some ((Es c).1 2, m_X4_ahead y u) ∧ s_X4_ifPassed F u (nI c) 3 = some (nI (cn (fun t => ((Es c).2.1 (8 * t) == 1) && !mb r t) 6), m_X4_ahead y u) ∧ s_L_held F 48 28 (Es c).2.1 (Es c).2.2.1 = some r := by
  obtain ⟨y, e', h', m', v', f1, f2, f3, f4, f5⟩ := k_foresee hF q nd h0 hc hE
  have eh := EH.of f2 f4
  obtain ⟨r, r1, r2, r3⟩ := e_held hF eh
  obtain ⟨r', y1, -, y3⟩ := x0_reached (F := F) (by omega) eh.hOK
  have hrr : r' = r := bits_eq y3 r2
  rw [hrr] at y1
  have w1 : ∀ {T e h m : Nat} {x : S_X3} {v : Nat → Int32} {E : S_XE}, WX G0 B T 6 e h m x v → EM 6 m v E → jd_bc (a_X3_wronged x) = E.1 5 := by
    intro T e h m x v E q em
    rw [em.1.1.2.2.2.2.2.1, q.1.1.2.2.2.2.2.2.2.2.2.2.2.2.1, bc24 fun t ht => by have := (q.1.2.2.2.1.2.2.1 t ht).1; omega]
  have w3 : ∀ {T e h m : Nat} {x : S_X3} {v : Nat → Int32} {E : S_XE}, WX G0 B T 6 e h m x v → EM 6 m v E → a_X3_ends x = E.1 3 := by
    intro T e h m x v E q em
    rw [em.1.1.2.2.2.1, q.1.1.2.2.2.2.2.2.2.2.2.1, q.1.1.2.2.2.2.2.2.2.2.1]
  have go : ∀ p, p ≤ 3 → s_X4_ifPassed F u (nI c) (nI p) = (s_X4_passedPart F (m_X4_ahead y u) (nI p)).bind fun y2 => some (y2, m_X4_ahead y u) := by
    intro p hp
    unfold s_X4_ifPassed
    rw [if_neg (show ¬ nI c < 1 from fun z => by have := (ni_lt (b := 1) (by omega) (by omega)).mp z; omega), if_neg (show ¬ (100 : Int32) < nI c from fun z => by have := (ni_lt (a := 100) (by omega) (by omega)).mp z; omega), if_neg (ni_nneg (by omega)), if_pos (show nI p ≤ 3 from (ni_le (b := 3) (by omega) (by omega)).mpr hp), f1, Option.bind_some]
  have hlast : jd_bc (a_X3_living y &&& (r ^^^ (-1))) = nI (cn (fun t => ((Es c).2.1 (8 * t) == 1) && !mb r t) 6) := by
    have hb : ∀ t, t < 32 → mb (a_X3_living y &&& (r ^^^ (-1))) t = (mb (a_X3_living y) t && !mb r t) := fun t ht => by rw [mb_and, mb_not _ ht]
    rw [bcn (n := 6) (by omega) fun t ht => by
      rw [hb t (mb_lt32 ht), Bool.and_eq_true] at ht
      exact f2.1.2.2.2.1.1 t ht.1]
    refine congrArg nI (cn_congr 6 fun t ht => ?_)
    rw [hb t (by omega), f5 t ht]
  have g0 := go 0 (by omega)
  have g1 := go 1 (by omega)
  have g2 := go 2 (by omega)
  have g3 := go 3 (by omega)
  refine ⟨y, r, ?_, ?_, ?_, ?_, r1⟩
  · refine Eq.trans g0 ?_
    unfold s_X4_passedPart
    rw [if_pos (show nI 0 = 0 from rfl), Option.bind_some]
    show some (a_X3_ends y - a_X3_ends (a_X4_now u), m_X4_ahead y u) = _
    rw [w3 f2 f4, w3 q.1 q.2.1]
  · refine Eq.trans g1 ?_
    unfold s_X4_passedPart
    rw [if_neg (show ¬ nI 1 = 0 by decide), if_pos (show nI 1 = 1 from rfl), Option.bind_some]
    show some (jd_bc (a_X3_wronged y) - jd_bc (a_X3_wronged (a_X4_now u)), m_X4_ahead y u) = _
    rw [w1 f2 f4, w1 q.1 q.2.1]
  · refine Eq.trans g2 ?_
    have hu : s_X1_underWay F (a_X3_rep (a_X4_ahead (m_X4_ahead y u))) = some (nI m') := x1_under f2.1.2.2.2.2.2.1.1
    unfold s_X4_passedPart
    rw [if_neg (show ¬ nI 2 = 0 by decide), if_neg (show ¬ nI 2 = 1 by decide), if_pos (show nI 2 = 2 from rfl), hu, Option.bind_some, Option.bind_some, f4.1.1.2.2.1, f2.1.1.2.2.2.2.2.2.2.1]
  · refine Eq.trans g3 ?_
    have hu : s_X0_reached F (a_X3_hold (a_X4_ahead (m_X4_ahead y u))) = some r := y1
    unfold s_X4_passedPart
    rw [if_neg (show ¬ nI 3 = 0 by decide), if_neg (show ¬ nI 3 = 1 by decide), if_neg (show ¬ nI 3 = 2 by decide), hu, Option.bind_some, Option.bind_some]
    show some (jd_bc (a_X3_living y &&& (r ^^^ (-1))), m_X4_ahead y u) = _
    rw [hlast]
theorem sl_not0 {v1 : Int32} : ∀ n k (x : S_X4) z x', 1 ≤ k → k ≤ 13 → s_X4_slandersToEnd_l13 F v1 n x (nI k) = some (z, x') → ¬ z = 0 := by
  intro n
  induction n with
  | zero => intro k x z x' _ _ hR; cases hR
  | succ n ih =>
    intro k x z x' h1 h2 hR
    rw [e_X4_slandersToEnd_l13] at hR
    by_cases h12 : (12 : Int32) < nI k
    · rw [if_pos h12] at hR
      cases hR; decide
    · rw [if_neg h12] at hR
      have hk : k ≤ 12 := by
        apply Classical.byContradiction
        intro hc
        exact h12 ((ni_lt (a := 12) (by omega) (by omega)).mpr (by omega))
      obtain ⟨y1, -, hR⟩ := lf_b hR
      obtain ⟨y2, -, hR⟩ := lf_b hR
      obtain ⟨y3, -, hR⟩ := lf_b hR
      cases y3 with
      | true =>
        rw [if_pos rfl] at hR
        obtain ⟨y4, -, hR⟩ := lf_b hR
        rw [ni_1] at hR
        exact ih (k + 1) _ z x' (by omega) (by omega) hR
      | false =>
        rw [if_neg Bool.false_ne_true] at hR
        have hz : nI k = z := congrArg Prod.fst (Option.some.inj hR)
        rw [← hz]
        intro hc
        have := (ni_eq (b := 0) (by omega) (by omega)).mp hc
        omega
theorem k_bears (hF : 6400 < F) (q : KE B T e h m (a_X4_now u) v E) (nd : ND T m v) {Es : Nat → S_XE} (h0 : Es 0 = E) (hE : ∀ k, k < 30 → s_L_tick F (Es k) = some (Es (k + 1))) {t : Nat} (ht : t < 6) :
    ∃ z u', s_X4_bears F u (nI t) = some (z, u') ∧ FX u u' ∧ (z = 0 ↔ ((Es 30).2.1 (8 * t) == 1) = false) := by
  obtain ⟨q1, em, hB, hT⟩ := q
  have qq : KE B T e h m (a_X4_now u) v E := ⟨q1, em, hB, hT⟩
  obtain ⟨w, hw⟩ : ∃ w : S_X5, w = m_X5_state v default := ⟨_, rfl⟩
  have est : a_X5_state w = v := by rw [hw]
  obtain ⟨z, u', -, s1, -, s3, -⟩ := x_wouldBear hF (u := u) (w := w) (by rw [est]; exact q1) (by rw [est]; exact nd) hT (by omega) ht
  refine ⟨z, u', ?_, s3, ?_⟩
  · unfold s_X4_bears
    rw [c_isThing F qq.th, tT_in (by omega) ht, Option.bind_some, if_pos rfl, s1, Option.bind_some]
  · obtain ⟨x0, x1, x2, x3⟩ := x3_copyFrom (F := F) (a_X4_slandered u) q1
    obtain ⟨y0, y1, y2, y3⟩ := x3_copyFrom (F := F) (a_X4_ahead u) x3
    obtain ⟨U, V, Es', es, hs, ms, a1, a2, a3, a4, a5, a6, ch⟩ := chain hF hB y3 nd em 30 (by omega)
    have hp := ch.pass hF (c := 30) (Nat.le_refl _) (by omega)
    rw [a1] at hp
    have hEE := tick_unique (F := F) (n := 30) (A := Es') (C := Es) (a3.trans h0.symm) (fun k hk => (ch.2 k hk).2.1) hE 30 (Nat.le_refl _)
    rw [← hEE, ch.lives (Nat.le_refl _) ht]
    obtain ⟨F', hF'⟩ : ∃ F', F = F' + 1 := ⟨F - 1, by omega⟩
    have hun : s_X4_slandersToEnd F u (nI t) = s_X4_slandersToEnd_l13 F (nI t) F (m_X4_slandered x0 u) 0 := by
      unfold s_X4_slandersToEnd
      rw [x1, Option.bind_some]
    have hst : ∀ n, s_X4_slandersToEnd_l13 F (nI t) (n + 1) (m_X4_slandered x0 u) 0 = (if mb (a_X3_living (U 30)) t then ((s_X3_lie F x0 (nI t) (-1)).bind fun y4 => (s_X4_slandersToEnd_l13 F (nI t) n (m_X4_slandered y4.2 (m_X4_ahead (U 30) (m_X4_slandered x0 u))) (0 + 1))) else (some (0, m_X4_ahead (U 30) (m_X4_slandered x0 u)))) := by
      intro n
      have y1' : s_X3_copyFrom F (a_X4_ahead (m_X4_slandered x0 u)) (a_X4_slandered (m_X4_slandered x0 u)) = some y0 := y1
      have lv : s_X3_lives F (U 30) (nI t) = some (mb (a_X3_living (U 30)) t) := x3_lives F _ (by omega)
      rw [e_X4_slandersToEnd_l13, if_neg (by decide), y1', Option.bind_some, ni_30, hp, Option.bind_some, lv, Option.bind_some]
    have hst2 : s_X4_slandersToEnd_l13 F (nI t) F (m_X4_slandered x0 u) 0 = (if mb (a_X3_living (U 30)) t then ((s_X3_lie F x0 (nI t) (-1)).bind fun y4 => (s_X4_slandersToEnd_l13 F (nI t) F' (m_X4_slandered y4.2 (m_X4_ahead (U 30) (m_X4_slandered x0 u))) (0 + 1))) else (some (0, m_X4_ahead (U 30) (m_X4_slandered x0 u)))) := by
      have := hst F'
      rw [← hF'] at this
      exact this
    rw [hun, hst2] at s1
    cases hl : mb (a_X3_living (U 30)) t with
    | false =>
      rw [hl, if_neg Bool.false_ne_true] at s1
      have hz : 0 = z := congrArg Prod.fst (Option.some.inj s1)
      exact ⟨fun _ => rfl, fun _ => hz.symm⟩
    | true =>
      rw [hl, if_pos rfl] at s1
      obtain ⟨y4, -, hR⟩ := lf_b s1
      have hR' : s_X4_slandersToEnd_l13 F (nI t) F' (m_X4_slandered y4.2 (m_X4_ahead (U 30) (m_X4_slandered x0 u))) (nI 1) = some (z, u') := hR
      have := sl_not0 _ 1 _ _ _ (by omega) (by omega) hR'
      exact ⟨fun z => absurd z this, fun z => by cases z⟩
theorem k_ifTried (hF : 6400 < F) (q : KE B T e h m (a_X4_now u) v E) (nd : ND T m v) :
    ∃ y E', s_L_trial F E = some E' ∧ s_X4_ifTried F u 0 = some (E'.1 3 - E.1 3, m_X4_ahead y u) ∧ s_X4_ifTried F u 1 = some (nI (cn (mb (a_X3_suspects y)) 6), m_X4_ahead y u) ∧ s_X4_ifTried F u 2 = some (E'.1 5 - E.1 5, m_X4_ahead y u) ∧ ∀ t, t < 6 → E'.2.1 (8 * t + 3) = if mb (a_X3_suspects y) t then 1 else 0 := by
  obtain ⟨q1, em, hB, hT⟩ := q
  obtain ⟨x, x1, x2, x3⟩ := x3_copyFrom (F := F) (a_X4_ahead u) q1
  obtain ⟨e', h', m', y, v', E', k1, k2, k3, k4, k5, k6⟩ := c_trial hF hB x3 nd em
  have hfor : s_X4_foreseeTrial F u = some (m_X4_ahead y u) := by
    unfold s_X4_foreseeTrial
    rw [x1, Option.bind_some, k1, Option.bind_some]
  have w1 : ∀ {T e h m : Nat} {x : S_X3} {v : Nat → Int32} {E : S_XE}, WX G0 B T 6 e h m x v → EM 6 m v E → jd_bc (a_X3_wronged x) = E.1 5 := by
    intro T e h m x v E q em
    rw [em.1.1.2.2.2.2.2.1, q.1.1.2.2.2.2.2.2.2.2.2.2.2.2.1, bc24 fun t ht => by have := (q.1.2.2.2.1.2.2.1 t ht).1; omega]
  have w3 : ∀ {T e h m : Nat} {x : S_X3} {v : Nat → Int32} {E : S_XE}, WX G0 B T 6 e h m x v → EM 6 m v E → a_X3_ends x = E.1 3 := by
    intro T e h m x v E q em
    rw [em.1.1.2.2.2.1, q.1.1.2.2.2.2.2.2.2.2.2.1, q.1.1.2.2.2.2.2.2.2.2.1]
  refine ⟨y, E', k2, ?_, ?_, ?_, fun t ht => (k5.2.1 t ht).2.2.2.1.trans (k3.1.2.2.1.1 t ht).2.2.2.1⟩
  · unfold s_X4_ifTried
    rw [if_neg (by decide), if_pos (by decide), hfor, Option.bind_some]
    unfold s_X4_triedPart
    rw [if_pos rfl, Option.bind_some]
    show some (a_X3_ends y - a_X3_ends (a_X4_now u), m_X4_ahead y u) = _
    rw [w3 k3 k5, w3 q1 em]
  · unfold s_X4_ifTried
    rw [if_neg (by decide), if_pos (by decide), hfor, Option.bind_some]
    unfold s_X4_triedPart
    rw [if_neg (by decide), if_pos rfl, Option.bind_some]
    show some (jd_bc (a_X3_suspects y), m_X4_ahead y u) = _
    rw [bcn (n := 6) (by omega) fun t ht => k3.1.2.2.2.1.1 t (k3.1.2.2.2.1.2.1 t ht)]
  · unfold s_X4_ifTried
    rw [if_neg (by decide), if_pos (by decide), hfor, Option.bind_some]
    unfold s_X4_triedPart
    rw [if_neg (by decide), if_neg (by decide), Option.bind_some]
    show some (jd_bc (a_X3_wronged y) - jd_bc (a_X3_wronged (a_X4_now u)), m_X4_ahead y u) = _
    rw [w1 k3 k5, w1 q1 em]
end
