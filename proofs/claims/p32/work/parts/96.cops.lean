/-! the class and the engine: what changes the state -/
theorem c_tick {F : Nat} (hF : 6400 < F) {B T e h m : Nat} (hB : B ≤ 32) {u : S_X3} {v : Nat → Int32} {E : S_XE} (q : WX G0 B T 6 e h m u v) (em : EM 6 m v E) (hT : T < 5600) :
    ∃ e' h' m' u' v' E', (∀ N v1 v2 k, ¬ v1 ≤ nI k → s_X3_passTicks_l7 F v1 v2 (N + 1) u (nI k) = s_X3_passTicks_l7 F v1 v2 N u' (nI (k + 1))) ∧ s_L_tick F E = some E' ∧ WX G0 B (T + 1) 6 e' h' m' u' v' ∧ ND (T + 1) m' v' ∧ EM 6 m' v' E' ∧ e ≤ e' ∧ EV (T + 1) u u' := by
  obtain ⟨w, hw⟩ : ∃ w : S_X5, w = m_X5_state v default := ⟨_, rfl⟩
  have est : a_X5_state w = v := by rw [hw]
  rw [← est] at q em
  obtain ⟨e1, h1, m1, u1, w1, k1, k2, k3, k4, k5, -, k7⟩ := x_tick (F := F) (by omega) q hT
  obtain ⟨w1', E1, m1', l1, l2, l3, l4, l5⟩ := e_tick hF hB q em hT
  have hww : w1 = w1' := Option.some.inj (k2.symm.trans l1)
  subst hww
  have hm1 := (WB_e k3.1).2.2
  exact ⟨e1, h1, m1, u1, a_X5_state w1, E1, k1, l2, k3, k4, l3.to l4 k3.1.1.2.2.2.2.2.2.2.1 (by omega) (by omega), k5, k7⟩
/-- ticks of the engine -/
def eT (F : Nat) : Nat → S_XE → Option S_XE
  | 0, E => some E
  | n + 1, E => (s_L_tick F E).bind (eT F n)
theorem eT_s (F : Nat) : ∀ n E, eT F (n + 1) E = (eT F n E).bind (s_L_tick F) := by
  intro n
  induction n with
  | zero =>
    intro E
    show (s_L_tick F E).bind (eT F 0) = _
    show (s_L_tick F E).bind (fun x => some x) = s_L_tick F E
    cases s_L_tick F E <;> rfl
  | succ n ih =>
    intro E
    show (s_L_tick F E).bind (eT F (n + 1)) = ((s_L_tick F E).bind (eT F n)).bind (s_L_tick F)
    cases s_L_tick F E with
    | none => rfl
    | some x => exact ih x
theorem c_passLoop {F : Nat} (hF : 6400 < F) {B c : Nat} (hB : B ≤ 32) (hc : c ≤ 200) {v2 : Int32} : ∀ d k T e h m u v E nn, k + d = c → d < nn → T + d ≤ 5600 → WX G0 B T 6 e h m u v → ND T m v → EM 6 m v E →
    ∃ e' h' m' u' v' E', s_X3_passTicks_l7 F (nI c) v2 nn u (nI k) = some (a_X3_ends u' - v2, u') ∧ eT F d E = some E' ∧ WX G0 B (T + d) 6 e' h' m' u' v' ∧ ND (T + d) m' v' ∧ EM 6 m' v' E' ∧ e ≤ e' ∧ ∀ T0 u0, T0 ≤ T → EW T0 T u0 u → EW T0 (T + d) u0 u' := by
  intro d
  induction d with
  | zero =>
    intro k T e h m u v E nn hk hnn hT q nd em
    obtain ⟨nn, rfl⟩ : ∃ j, nn = j + 1 := ⟨nn - 1, by omega⟩
    obtain rfl : k = c := by omega
    exact ⟨e, h, m, u, v, E, by rw [e_X3_passTicks_l7, if_pos (Int32.le_refl _)], rfl, q, nd, em, Nat.le_refl _, fun _ _ _ z => z⟩
  | succ d ih =>
    intro k T e h m u v E nn hk hnn hT q nd em
    obtain ⟨nn, rfl⟩ : ∃ j, nn = j + 1 := ⟨nn - 1, by omega⟩
    obtain ⟨e1, h1, m1, u1, v1, E1, k1, k2, k3, k4, k5, k6, k7⟩ := c_tick hF hB q em (by omega)
    have hk' : ¬ nI c ≤ nI k := ni_nle (show k < c by omega) (by omega)
    obtain ⟨e2, h2, m2, u2, v2', E2, p1, p2, p3, p4, p5, p6, p7⟩ := ih (k + 1) (T + 1) e1 h1 m1 u1 v1 E1 nn (by omega) (by omega) (by omega) k3 k4 k5
    rw [show T + 1 + d = T + (d + 1) by omega] at p3 p4 p7
    refine ⟨e2, h2, m2, u2, v2', E2, ?_, ?_, p3, p4, p5, by omega, fun T0 u0 z1 z2 => p7 T0 u0 (by omega) (z2.st k7 z1)⟩
    · rw [k1 nn _ v2 k hk']; exact p1
    · show (s_L_tick F E).bind (eT F d) = _
      rw [k2, Option.bind_some]; exact p2
theorem c_pass {F : Nat} (hF : 6400 < F) {B T e h m c : Nat} (hB : B ≤ 32) {u : S_X3} {v : Nat → Int32} {E : S_XE} (hc : c ≤ 200) (hT : T + c ≤ 5600) (q : WX G0 B T 6 e h m u v) (nd : ND T m v) (em : EM 6 m v E) :
    ∃ e' h' m' u' v' E', s_X3_passTicks F u (nI c) = some (nI e' - nI e, u') ∧ eT F c E = some E' ∧ WX G0 B (T + c) 6 e' h' m' u' v' ∧ ND (T + c) m' v' ∧ EM 6 m' v' E' ∧ e ≤ e' ∧ EW T (T + c) u u' := by
  obtain ⟨e2, h2, m2, u2, v2, E2, p1, p2, p3, p4, p5, p6, p7⟩ := c_passLoop hF hB hc (v2 := a_X3_ends u) c 0 T e h m u v E F (by omega) (by omega) hT q nd em
  have p1' : s_X3_passTicks F u (nI c) = _ := p1
  have i6 : a_X3_ends u = nI e := q.1.1.2.2.2.2.2.2.2.2.1
  have i7 : a_X3_ends u2 = nI e2 := p3.1.1.2.2.2.2.2.2.2.2.1
  rw [i6, i7] at p1'
  exact ⟨e2, h2, m2, u2, v2, E2, p1', p2, p3, p4, p5, p6, p7 T u (Nat.le_refl _) (EW.rf T u)⟩
theorem c_trial {F : Nat} (hF : 6400 < F) {B T e h m : Nat} (hB : B ≤ 32) {u : S_X3} {v : Nat → Int32} {E : S_XE} (q : WX G0 B T 6 e h m u v) (nd : ND T m v) (em : EM 6 m v E) :
    ∃ e' h' m' u' v' E', s_X3_holdTrial F u = some (nI e' - nI e, u') ∧ s_L_trial F E = some E' ∧ WX G0 B T 6 e' h' m' u' v' ∧ ND T m' v' ∧ EM 6 m' v' E' ∧ e ≤ e' := by
  obtain ⟨w, hw⟩ : ∃ w : S_X5, w = m_X5_state v default := ⟨_, rfl⟩
  have est : a_X5_state w = v := by rw [hw]
  rw [← est] at q em nd
  obtain ⟨e1, h1, m1, u1, w1, k1, k2, k3, k4, k5, -, -⟩ := x_holdTrial (F := F) (by omega) q nd
  obtain ⟨w1', E1, m1', l1, l2, l3, l4, l5⟩ := e_trial hF hB q nd em
  have hww : w1 = w1' := Option.some.inj (k2.symm.trans l1)
  subst hww
  have hm1 := (WB_e k3.1).2.2
  exact ⟨e1, h1, m1, u1, a_X5_state w1, E1, k1, l2, k3, k4, l3.to l4 k3.1.1.2.2.2.2.2.2.2.1 (by omega) (by omega), k5⟩
/-- a report of the law: if there is something -/
def eR (F : Nat) (y by_ : Int32) (E : S_XE) : Option S_XE := if y < 0 then some E else (s_L_report F (E.1, E.2.2.2) y by_).bind fun r => some (r.1, E.2.1, E.2.2.1, r.2)
def ea (k : Nat) : Nat := if k < 4 then 24 + k else k - 4
/-- a change of the law's rows -/
def eC (F : Nat) (k : Nat) (y : Int32) (E : S_XE) : Option S_XE := (eR F y 1 (E.1, E.2.1, upd E.2.2.1 (ea k) y, E.2.2.2)).bind fun E2 => (eR F (E.2.2.1 (ea k)) (-1) E2).bind fun E3 => s_L_hear F E3
theorem c_report {F : Nat} (hF : 6400 < F) {B T e h m : Nat} {u : S_X3} {v : Nat → Int32} {E : S_XE} (q : WX G0 B T 6 e h m u v) (em : EM 6 m v E) (hb : h + m + 1 ≤ B + 4 * e) (hm : h + m < 63) {t : Nat} (ht : t < 6) {y : Int32} (hy : y = 1 ∨ y = -1) :
    ∃ r' v' E', (∀ u', a_X3_rep u' = a_X3_rep u → a_X3_time u' = a_X3_time u → a_X3_settings u' = a_X3_settings u → ∃ d, s_X3_dueTime F u' (nI t) = some d ∧ s_X1_make F (a_X3_rep u) (nI t) y d 0 = some (nI (h + m), r')) ∧ eR F (nI t) y E = some E' ∧ WX G0 B T 6 e h (m + 1) (m_X3_rep r' u) v' ∧ EM 6 (m + 1) v' E' := by
  obtain ⟨w, hw⟩ : ∃ w : S_X5, w = m_X5_state v default := ⟨_, rfl⟩
  have est : a_X5_state w = v := by rw [hw]
  rw [← est] at q em
  obtain ⟨r', v', g1, g2, g3⟩ := WX_report (F := F) (by omega) q hb ht (y := y) (fl := 0) hy
  obtain ⟨Q, R, f1, f2⟩ := EM_report (F := F) (MB.of q.1) em hm ht hy
  have hadd := x5_addReport (F := F) w (m := m) (t := t) (by omega) (by omega) q.1.1.2.2.2.2.2.2.2.1 y 0
  have hvv : v' = adV (a_X5_state w) m (a_X5_state w 2, nI t, y, a_X5_state w 0 + a_X5_state w (8 + t % 3), 0) := by
    have h1 := g2.symm.trans hadd
    have h2 := congrArg Prod.snd (Option.some.inj h1)
    have h3 := congrArg a_X5_state h2
    exact h3
  rw [← hvv] at f2
  refine ⟨r', v', (Q, E.2.1, E.2.2.1, R), g1, ?_, g3, f2⟩
  unfold eR
  rw [if_neg (ni_nneg (by omega)), f1, Option.bind_some]
theorem c_chg2 {F : Nat} (hF : 6400 < F) {B T e h m : Nat} (hB : B ≤ 32) {u : S_X3} {v : Nat → Int32} {E : S_XE} (q : WX G0 B T 6 e h m u v) (em : EM 6 m v E) (hb : h + m + 1 ≤ B + 4 * e) {z : Int32} (hz : z = -1 ∨ ∃ t, t < 6 ∧ z = nI t) :
    ∃ e' h' m' u' v' E', s_X3_change_b39 F u z = some (z, u') ∧ (eR F z (-1) E).bind (s_L_hear F) = some E' ∧ WX G0 B T 6 e' h' m' u' v' ∧ ND T m' v' ∧ EM 6 m' v' E' ∧ e ≤ e' := by
  have he := (WB_e q.1).1
  have hear : ∀ {e h m : Nat} {u : S_X3} {v : Nat → Int32} {E : S_XE}, WX G0 B T 6 e h m u v → EM 6 m v E → ∃ e' h' m' u' v' E', s_X3_hearDue F u = some u' ∧ s_L_hear F E = some E' ∧ WX G0 B T 6 e' h' m' u' v' ∧ ND T m' v' ∧ EM 6 m' v' E' ∧ e ≤ e' := by
    intro e h m u v E q em
    obtain ⟨w, hw⟩ : ∃ w : S_X5, w = m_X5_state v default := ⟨_, rfl⟩
    have est : a_X5_state w = v := by rw [hw]
    rw [← est] at q em
    obtain ⟨e', h', m', u', v', k1, k2, k3, k4, k5, -⟩ := x_hearDue (F := F) (by omega) q
    obtain ⟨v2, E2, m2, l1, l2, l3, l4, l5⟩ := e_hear hF hB q em
    have hvv : v' = v2 := st_inj (k2.symm.trans l1)
    subst hvv
    have hm1 := (WB_e k3.1).2.2
    exact ⟨e', h', m', u', v', E2, k1, l2, k3, k4, l3.to l4 k3.1.1.2.2.2.2.2.2.2.1 (by omega) (by omega), k5⟩
  rcases hz with hz | ⟨t, ht, hz⟩
  · obtain ⟨e', h', m', u', v', E', k1, k2, k3, k4, k5, k6⟩ := hear q em
    refine ⟨e', h', m', u', v', E', ?_, ?_, k3, k4, k5, k6⟩
    · unfold s_X3_change_b39 s_X3_change_b60
      rw [if_pos hz, k1, Option.bind_some]
    · unfold eR
      rw [hz, if_pos i32_neg1, Option.bind_some]; exact k2
  · obtain ⟨r', v1, E1, g1, g2, g3, g4⟩ := c_report hF q em hb (by omega) ht (y := -1) (Or.inr rfl)
    obtain ⟨d, d1, d2⟩ := g1 u rfl rfl rfl
    obtain ⟨e', h', m', u', v', E', k1, k2, k3, k4, k5, k6⟩ := hear g3 g4
    refine ⟨e', h', m', u', v', E', ?_, ?_, k3, k4, k5, k6⟩
    · unfold s_X3_change_b39 s_X3_change_b60
      rw [hz, if_neg (nI_ne (by omega)), d1, Option.bind_some, d2, Option.bind_some, k1, Option.bind_some]
    · rw [hz, g2, Option.bind_some]; exact k2
theorem c_change {F : Nat} (hF : 6400 < F) {B T e h m : Nat} (hB : B + 2 ≤ 32) {u : S_X3} {v : Nat → Int32} {E : S_XE} (q : WX G0 B T 6 e h m u v) (em : EM 6 m v E) {k : Nat} (hk : k < 28) (hko : 4 ≤ k → mb (a_X3_living u) ((k - 4) / 4) = true) {y : Int32} (hy : y = -1 ∨ ∃ t, y = nI t ∧ mb (a_X3_living u) t = true) :
    ∃ e' h' m' u' v' E', s_X3_change F u (nI k) y = some (E.2.2.1 (ea k), u') ∧ eC F k y E = some E' ∧ WX G0 (B + 2) T 6 e' h' m' u' v' ∧ ND T m' v' ∧ EM 6 m' v' E' ∧ e ≤ e' := by
  have he := (WB_e q.1).1
  have q0 := WX_mono q (show B ≤ B + 2 by omega) (by omega)
  have hb0 : h + m + 2 ≤ (B + 2) + 4 * e := by have := q.1.2.2.2.2.2.2.1; omega
  have eh := EH.of q em
  obtain ⟨z, hz⟩ : ∃ z, z = a_X3_hold u k := ⟨_, rfl⟩
  have hzE : E.2.2.1 (ea k) = z := by
    unfold ea
    by_cases h4 : k < 4
    · rw [if_pos h4, eh.2.2.1 k h4, hz]
    · rw [if_neg h4, eh.2.1 _ (by omega), show 4 + (k - 4) = k by omega, hz]
  have hmp : mp k < 353 := by unfold mp; split <;> omega
  have hz2 : z = -1 ∨ ∃ t, t < 6 ∧ z = nI t := by
    rcases q.2.2.2.1 k (by omega) with c | ⟨t, c1, c2, -⟩
    · exact Or.inl (hz.trans c)
    · exact Or.inr ⟨t, c1, hz.trans c2⟩
  obtain ⟨f1, hf1⟩ : ∃ f, f = upd (a_X3_hold u) k y := ⟨_, rfl⟩
  obtain ⟨v1, hv1⟩ : ∃ f, f = upd v (mp k) y := ⟨_, rfl⟩
  obtain ⟨u1, hu1⟩ : ∃ u1, u1 = m_X3_hold f1 u := ⟨_, rfl⟩
  obtain ⟨E1, hE1⟩ : ∃ E1 : S_XE, E1 = (E.1, E.2.1, upd E.2.2.1 (ea k) y, E.2.2.2) := ⟨_, rfl⟩
  have erp : a_X3_rep u = a_X3_rep u1 := by rw [hu1]
  have em1 : EM 6 m v1 E1 := by
    rw [hv1, hE1]
    unfold mp ea
    by_cases h4 : k < 4
    · rw [if_pos h4, if_pos h4]; exact em.hand h4 y
    · rw [if_neg h4, if_neg h4]
      have := em.slot (j := k - 4) (by omega) y
      rw [show 257 + (k - 4) = 253 + k by omega] at this
      exact this
  have qB1 : WB (B + 2) T 6 e h m u1 v1 := by
    rw [hu1]
    exact WB_hold q0.1 f1 fun j hj => by rw [hv1, upd_ne _ _ (by unfold mp; split <;> omega)]
  have qH1 : WH G0 6 u1 v1 := by
    have : WH G0 6 (m_X3_hold f1 u) v1 := by
      refine ⟨fun j hj => ?_, fun o ho j hj => Or.inl ?_, fun j hj => ?_, fun o ho hl j hj => ?_⟩
      · show v1 (13 + j) = f1 j
        rw [hv1, hf1]
        by_cases hjk : j = k
        · rw [hjk, upd_at, show 13 + k = mp k from by unfold mp; rw [if_pos (by omega)], upd_at]
        · rw [upd_ne _ _ hjk, upd_ne _ _ (by unfold mp; split <;> omega)]; exact q.2.1 j hj
      · show v1 (257 + 4 * o + j) = f1 (4 + 4 * o + j)
        rw [hv1, hf1]
        by_cases hjk : 4 + 4 * o + j = k
        · rw [hjk, upd_at, show 257 + 4 * o + j = mp k from by unfold mp; rw [if_neg (by omega)]; omega, upd_at]
        · rw [upd_ne _ _ hjk, upd_ne _ _ (by unfold mp; split <;> omega)]; exact WH0 q.2 ho hj
      · show f1 j = -1 ∨ ∃ t, t < 6 ∧ f1 j = nI t ∧ mb (a_X3_living u) t = true
        rw [hf1]
        by_cases hjk : j = k
        · rw [hjk, upd_at]
          rcases hy with hy | ⟨t, hy, hl⟩
          · exact Or.inl hy
          · exact Or.inr ⟨t, q.1.2.2.2.1.1 t hl, hy, hl⟩
        · rw [upd_ne _ _ hjk]; exact q.2.2.2.1 j hj
      · show f1 (4 + 4 * o + j) = -1
        have hl2 : mb (a_X3_living u) o = false := hl
        rw [hf1, upd_ne _ _ (fun z => by
          have := hko (by omega)
          rw [show (k - 4) / 4 = o by omega, hl2] at this
          cases this)]
        exact q.2.2.2.2 o ho hl2 j hj
    rw [hu1]; exact this
  have hcl : s_X3_change F u (nI k) y = if y = (-1) then (s_X3_change_b39 F u1 z) else ((s_X3_dueTime F u1 y).bind fun y3 => ((s_X1_make F (a_X3_rep u1) y 1 y3 0).bind fun y4 => (s_X3_change_b39 F (m_X3_rep y4.2 u1) z))) := by
    unfold s_X3_change
    rw [x0_at F _ (by omega), Option.bind_some, x0_hold F _ _ (by omega), Option.bind_some, ← hz, ← hf1, ← hu1, erp]
  have hen : eC F k y E = (eR F y 1 E1).bind fun E2 => (eR F z (-1) E2).bind fun E3 => s_L_hear F E3 := by
    unfold eC
    rw [hzE, ← hE1]
  rw [hzE]
  rcases hy with hy | ⟨t, hy, hl⟩
  · rw [if_pos hy] at hcl
    obtain ⟨e', h', m', u', v', E', k1, k2, k3, k4, k5, k6⟩ := c_chg2 hF (by omega) ⟨qB1, qH1⟩ em1 (by omega) hz2
    refine ⟨e', h', m', u', v', E', hcl.trans k1, ?_, k3, k4, k5, k6⟩
    rw [hen, hy]
    unfold eR at k2 ⊢
    rw [if_pos i32_neg1, Option.bind_some]
    exact k2
  · have htn := q.1.2.2.2.1.1 t hl
    rw [hy, if_neg (nI_ne (by omega))] at hcl
    obtain ⟨r', v2, E2, g1, g2, g3, g4⟩ := c_report hF ⟨qB1, qH1⟩ em1 (by omega) (by omega) htn (y := 1) (Or.inl rfl)
    obtain ⟨d, d1, d2⟩ := g1 u1 rfl rfl rfl
    rw [d1, Option.bind_some, d2, Option.bind_some] at hcl
    obtain ⟨e', h', m', u', v', E', k1, k2, k3, k4, k5, k6⟩ := c_chg2 hF (by omega) g3 g4 (by omega) hz2
    refine ⟨e', h', m', u', v', E', by rw [hy]; exact hcl.trans k1, ?_, k3, k4, k5, k6⟩
    rw [hen, hy, g2, Option.bind_some]
    exact k2
