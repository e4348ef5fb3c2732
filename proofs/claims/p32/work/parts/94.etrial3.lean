/-! a suspect is tried; a trial; a tick: in the engine and the model -/
theorem e_try {F : Nat} (hF : 6400 < F) {B T e h m : Nat} (hB : B ≤ 32) {u : S_X3} {w : S_X5} {E : S_XE} (q : WX G0 B T 6 e h m u (a_X5_state w)) (em : EM 6 m (a_X5_state w) E) {s : Nat} (hs : mb (a_X3_suspects u) s = true) {v4 : Int32} (hv4 : mb v4 s = true) :
    ∃ w' E' m', s_X5_tries F w (nI s) = some w' ∧ (∀ n, s_L_trial_l39 F v4 (n + 1) E (nI s) = s_L_trial_l39 F v4 n E' (nI (s + 1))) ∧ EM 6 m' (a_X5_state w') E' ∧ a_X5_state w' 3 = nI m' ∧ m' ≤ 100 := by
  obtain ⟨he, hn, -⟩ := WB_e q.1
  have hbud := q.1.2.2.2.2.2.2.1
  have hl := q.1.2.2.2.1.2.1 s hs
  have hsn := q.1.2.2.2.1.1 s hl
  have eh := EH.of q em
  obtain ⟨r, b, g, r1, b1, f1, g1, g2, g3⟩ := x_set (F := F) (by omega) q hl
  obtain ⟨r', y1, y2, y3⟩ := x0_reachOf (F := F) (by omega) (WX_hOK q) (x := s) (by omega)
  have hrr : r' = r := Option.some.inj (y1.symm.trans r1)
  subst hrr
  have hset : ∀ t, mb (r' ||| (1 <<< (nI s &&& 31))) t = true ↔ t = s ∨ hFrom (a_X3_hold u) s t := by
    intro t
    rw [mb_set _ (by omega)]
    by_cases hts : t = s
    · rw [if_pos hts]; exact ⟨fun _ => Or.inl hts, fun _ => rfl⟩
    · rw [if_neg hts, y3 t]
      exact ⟨fun z => Or.inr z, fun z => z.resolve_left hts⟩
  obtain ⟨set, hsd⟩ : ∃ set, set = r' ||| (1 <<< (nI s &&& 31)) := ⟨_, rfl⟩
  rw [← hsd] at b1 g2 g3 hset
  have hset6 : ∀ t, mb set t = true → t < 6 := fun t ht => eh.2.2.2.2.2 t (g3 t ht)
  -- the engine's set
  obtain ⟨re, e1, e2, -⟩ := e_reach hF eh (s := 1 <<< (nI s &&& 31)) (fun t ht => by
    have ht32 := mb_lt32 ht
    rw [mb_one s (by omega) t ht32] at ht
    have := of_decide_eq_true ht
    omega)
  have hre : re = set := mb_ext fun t ht32 => by
    rw [Bool.eq_iff_iff, e2 t, hset t]
    refine (hRe_E (fun _ _ => Iff.rfl) (S' := fun x => x = s) (fun x => ?_) t).trans hRe_self
    by_cases hx : x < 32
    · rw [mb_one s (by omega) x hx, decide_eq_true_eq]
      exact ⟨fun z => z.symm, fun z => z.symm⟩
    · rw [mb_big _ (by omega)]
      exact ⟨fun z => (by cases z), fun z => (by omega)⟩
  rw [hre] at e1
  have hth3 : a_XE_th E (8 * s + 3) = 1 := (em.2.1 s hsn).2.2.2.1.trans ((q.1.2.2.1.1 s hsn).2.2.2.1.trans (bv_t hs))
  have n3 : (nI (8 * s + 3)).toNatClampNeg = 8 * s + 3 := ni_nat (by omega)
  have e83 : 8 * nI s + 3 = nI (8 * s + 3) := ni_8tp s 3
  have h2 : E.1 2 = nI m := em.1.1.2.2.1.trans q.1.1.2.2.2.2.2.2.2.1
  have hstep : ∀ n, ∃ x, s_L_trial_l39 F v4 (n + 1) E (nI s) = s_L_trial_b128 F (s_L_trial_l39 F v4 n) E v4 (nI s) set x ∧ (x ≤ 0 ↔ ∀ o, o < 6 → mb set o = true → cn (fun j => rof (RV (a_X5_state w) j) == nI o) m = 0) := by
    intro n
    obtain ⟨x, x1, x2⟩ := e_waits (F := F) (m := m) hF (by omega) (E := E) (R := RV (a_X5_state w)) h2 em.2.2.2.1 v4 (nI s) set (s_L_trial_l39 F v4 n)
    refine ⟨x, ?_, x2⟩
    rw [e_L_trial_l39, if_neg (il_nle hsn (by decide)), if_neg (fun z => by rw [(bit0 v4 (by omega)).mp z] at hv4; cases hv4), e83, if_pos (ni_lx (show 8 * s + 3 < 48 by omega) (by decide)), n3, hth3, if_neg (by decide), show s_L_reach F 48 28 (a_XE_th E) (a_XE_sl E) (1 <<< (nI s &&& 31)) = some set from e1, Option.bind_some, x1]
  obtain ⟨b', b2, b3⟩ := x1_anyFor (F := F) (by omega) q.1.2.2.2.2.2.1.1 set
  have hbb : b' = b := Option.some.inj (b2.symm.trans b1)
  subst hbb
  have hwait : b' = true ↔ ¬ ∀ o, o < 6 → mb set o = true → cn (fun j => rof (RV (a_X5_state w) j) == nI o) m = 0 := by
    rw [b3]
    constructor
    · rintro ⟨j, t, h1, h2, h3, h4⟩ hall
      have h6 := hset6 t h4
      have := cn_of0 m (hall t h6 h4) j h1
      rw [h3] at this
      simp at this
    · intro hno
      apply Classical.byContradiction
      intro hne
      apply hno
      intro o ho hbo
      refine cn_zero m fun j hj => ?_
      cases hq : (rof (RV (a_X5_state w) j) == nI o) with
      | false => rfl
      | true => exact absurd ⟨j, o, hj, by omega, by simpa using hq, hbo⟩ hne
  cases hb : b' with
  | true =>
    rw [hb] at b1 f1
    have hno := hwait.mp hb
    refine ⟨m_X5_isInSet g w, E, m, ?_, fun n => ?_, em, q.1.1.2.2.2.2.2.2.2.1, by omega⟩
    · unfold s_X5_tries
      rw [f1, Option.bind_some, if_pos rfl]
    · obtain ⟨x, x1, x2⟩ := hstep n
      rw [x1]
      unfold s_L_trial_b128
      rw [if_neg (fun z => hno (x2.mp z)), ni_1]
  | false =>
    rw [hb] at b1 f1
    have hyes : ∀ o, o < 6 → mb set o = true → cn (fun j => rof (RV (a_X5_state w) j) == nI o) m = 0 := by
      apply Classical.byContradiction
      intro hno
      have := hwait.mpr hno
      rw [hb] at this; cases this
    obtain ⟨s', hs'⟩ : ∃ s', s' = a_X3_suspects u &&& ((1 <<< (nI s &&& 31)) ^^^ (-1)) := ⟨_, rfl⟩
    obtain ⟨v2, hv2⟩ : ∃ f, f = upd (a_X5_state w) (17 + 10 * s + 3) 0 := ⟨_, rfl⟩
    obtain ⟨w2, hw2⟩ : ∃ w2, w2 = m_X5_state v2 (m_X5_isInSet g w) := ⟨_, rfl⟩
    obtain ⟨u1, hu1⟩ : ∃ u1, u1 = m_X3_suspects s' u := ⟨_, rfl⟩
    have est : a_X5_state w2 = v2 := by rw [hw2]
    have ese : a_X5_isInSet w2 = g := by rw [hw2]
    have el : a_X3_living u1 = a_X3_living u := by rw [hu1]
    have eho : a_X3_hold u1 = a_X3_hold u := by rw [hu1]
    have qB2 : WB B T 6 e h m u1 v2 := by
      have := WB_susp q.1 hsn (b := false) (fun z => by cases z) (s' := s') (fun j => by
        rw [hs', mb_clear _ (by omega) j]
        by_cases hj : j = s
        · rw [if_pos hj, decide_eq_true hj]; simp
        · rw [if_neg hj, decide_eq_false hj]; simp)
      rw [hu1, hv2]; exact this
    have qH2 : WH G0 6 u1 v2 := by
      have : WH G0 6 u v2 := WH_v hn q.2 fun k hk => by rw [hv2, upd_ne _ _ (by omega)]
      rw [hu1]; exact this
    obtain ⟨E2, hE2⟩ : ∃ E2 : S_XE, E2 = (E.1, upd E.2.1 (8 * s + 3) 0, E.2.2.1, E.2.2.2) := ⟨_, rfl⟩
    have em2 : EM 6 m v2 E2 := by
      have := em.part hsn (p := 3) (Or.inr rfl) 0
      rw [hv2, hE2]; exact this
    have q2 : WX G0 B T 6 e h m u1 v2 := ⟨qB2, qH2⟩
    obtain ⟨wr, i, gi, i1, i2, i3, i4, i5⟩ := x_innocent (F := F) (by omega) (u := u1) (w := w2) (by rw [est]; exact q2) (set := set) (by rw [ese]; exact g2) (by rw [el]; exact g3)
    obtain ⟨gu, hgu⟩ : ∃ gu, gu = set &&& (i ^^^ (-1)) := ⟨_, rfl⟩
    have hgub : ∀ t, t < 32 → mb gu t = (mb set t && !mb i t) := fun t ht => by rw [hgu, mb_and, mb_not _ ht]
    obtain ⟨w3, hw3⟩ : ∃ w3, w3 = m_X5_isInnocent gi w2 := ⟨_, rfl⟩
    have est3 : a_X5_state w3 = v2 := by rw [hw3]; exact est
    have hz : ∀ o, o < 24 → zt w3 2 o = mb gu o := by
      intro o ho
      have e1 : zt w3 2 o = (((2 : Int32) == 2) && (g o == 1) && (gi o == 0)) := by
        rw [hw3]
        show (((2 : Int32) == 2) && (a_X5_isInSet w2 o == 1) && (gi o == 0)) = _
        rw [ese]
      rw [e1, hgub o (by omega), show ((2 : Int32) == 2) = true from by decide, Bool.true_and]
      congr 1
      · rw [Bool.eq_iff_iff, ← g2 o ho]; simp
      · have h5 := i5 o ho
        rcases i4 o ho with z | z
        · rw [z] at h5 ⊢
          cases hi' : mb i o with
          | false => rfl
          | true => exact absurd (h5.mpr hi') (by decide)
        · rw [z] at h5 ⊢
          rw [h5.mp rfl]; rfl
    have q3 : WX (mb gu) B T 6 e h m u1 v2 := ⟨qB2, qH2.1, fun o ho k hk => Or.inl (WH0 qH2 ho hk), qH2.2.2⟩
    have hgs : ∀ t, mb gu t = true → mb set t = true := fun t ht => by
      rw [hgub t (mb_lt32 ht), Bool.and_eq_true] at ht
      exact ht.1
    have hr := x5_nextToEnd (F := F) (by omega) (w := w3) (u := u1) (by rw [est3]; exact qB2)
    have e3 : m_X5_state v2 w3 = w3 := by rw [← est3]
    obtain ⟨rk, hrk⟩ : ∃ rk : Nat → Nat, rk = fun t => (a_X3_ranks u1 t).toNatClampNeg := ⟨_, rfl⟩
    have hrks : ∀ t, t < 6 → a_X3_ranks u1 t = nI (rk t) ∧ rk t ≤ 9 := fun t ht => by
      obtain ⟨x, hx1, hx2⟩ := (qB2.2.2.1.1 t ht).2.1.2
      have : rk t = x := by rw [hrk]; show (a_X3_ranks u1 t).toNatClampNeg = x; rw [hx2, ni_nat (by omega)]
      rw [this]; exact ⟨hx2, hx1⟩
    obtain ⟨e1, m1, u2, v3, E3, p1, p2, p3, p4⟩ := e_ranks hF hB (gu := gu) (fun t ht => hset6 t (hgs t ht)) w3 hz (rk := rk) (fun t ht => (hrks t ht).2) v4 (nI s) 9 e m u1 v2 E2 F F _ (by omega) (by omega) (by have := cn_le (fun t => mb gu t && mb (a_X3_living u1) t) 6; unfold eA; omega) q3 em2 (fun t ht => (hrks t ht).1) (fun t ht hgt => by
      rw [el, g3 t (hgs t hgt)]
      have := (hrks t ht).2
      constructor
      · intro _; omega
      · intro _; rfl) (by rw [e3]; exact hr)
    rw [e3] at p1
    -- the engine comes to the ends
    have hengine : ∀ n, s_L_trial_l39 F v4 (n + 1) E (nI s) = s_L_trial_l271 F v4 (nI s) gu (s_L_trial_l39 F v4 n) F E2 9 := by
      intro n
      obtain ⟨x, x1, x2⟩ := hstep n
      have hEe : m_XE_th (upd (a_XE_th E) (8 * s + 3) 0) E = E2 := by rw [hE2]
      obtain ⟨c1, c2⟩ := e_withRest hF q2 em2 v4 (nI s) (set := set) (wr := wr) (by rw [el]; exact g3) (s_L_trial_l39 F v4 n) i1
      obtain ⟨ri, d1, d2, -⟩ := e_reach hF (EH.of q2 em2) (s := wr) c2
      obtain ⟨i', j1, -, j3⟩ := x0_reachedFrom (F := F) (by omega) (WX_hOK q2) (-1) (s := wr) (fun t ht => by
        cases hb : mb wr t with
        | false => rfl
        | true => have := c2 t hb; omega)
      have hii : i' = i := Option.some.inj (j1.symm.trans i2)
      subst hii
      have hri : ri = i' := bits_eq d2 j3
      rw [x1]
      unfold s_L_trial_b128
      rw [if_pos (x2.mpr hyes), e83, if_pos (ni_lx (show 8 * s + 3 < 48 by omega) (by decide)), n3, hEe, c1]
      unfold s_L_trial_b253
      rw [show s_L_reach F 48 28 (a_XE_th E2) (a_XE_sl E2) wr = some ri from d1, Option.bind_some, hri, ← hgu]
    obtain ⟨v5, E5, m5, k1, k2, k3, k4, k5⟩ := e_hear hF hB (w := m_X5_state v3 w3) p3 p4
    refine ⟨m_X5_state v5 (m_X5_state v3 w3), E5, m5, ?_, fun n => ?_, k3, k4, k5⟩
    · have hsp : s_X5_setPart F (m_X5_isInSet g w) (nI s) 3 0 = some w2 := by
        have h1 := x5_setPart F (m_X5_isInSet g w) (t := s) (p := 3) (by omega) 0
        rw [hw2, hv2]; exact h1
      unfold s_X5_tries
      rw [f1, Option.bind_some, if_neg Bool.false_ne_true, hsp, Option.bind_some, i3, ← hw3, Option.bind_some, hr, Option.bind_some, p1]
      unfold s_X5_tries_b44
      rw [k1, Option.bind_some]
    · have p2' := p2 (s_L_trial_l39 F v4 n)
      rw [hengine n]
      refine Eq.trans p2' ?_
      unfold s_L_trial_b334
      rw [k2, Option.bind_some, ni_1]
