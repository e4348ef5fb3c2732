/-! all that is due is heard, in the engine and the model -/
theorem st_inj {v v' : Nat → Int32} {w : S_X5} (h : some (m_X5_state v w) = some (m_X5_state v' w)) : v = v' := by
  have := congrArg a_X5_state (Option.some.inj h)
  exact this
theorem EM.to {m m' : Nat} {v : Nat → Int32} {E : S_XE} (em : EM 6 m v E) (h1 : v 3 = nI m) (h2 : v 3 = nI m') (hm : m ≤ 2000) (hm' : m' ≤ 2000) : EM 6 m' v E := by
  have : m = m' := (ni_eq (by omega) (by omega)).mp (h1.symm.trans h2)
  rw [← this]; exact em
theorem fm_unique {R : Nat → rw5} {m i j : Nat} (h1 : fmR R m i) (h2 : fmR R m j) : i = j := by
  rcases Nat.lt_trichotomy i j with h | h | h
  · have a := h2.2.1 i h
    have b := h1.2.2 j h2.1
    omega
  · exact h
  · have a := h1.2.1 j h
    have b := h2.2.2 i h1.1
    omega
theorem e_hearLoop {F : Nat} (hF : 6400 < F) (w : S_X5) {B T : Nat} (hB : B ≤ 32) : ∀ d h e m u v E v4 M N r, h + d = 60 → d < M → d < N → ¬ v4 < 0 → WX G0 B T 6 e h m u v → EM 6 m v E → s_X5_firstDue F (m_X5_state v w) = some r →
    ∃ v' E' m', s_X5_hearDue_l5 F M (m_X5_state v w) r = some (m_X5_state v' w) ∧ s_L_hear_l3 F N E v4 = some E' ∧ EM 6 m' v' E' ∧ v' 3 = nI m' ∧ m' ≤ 100 := by
  intro d
  induction d with
  | zero =>
    intro h e m u v E v4 M N r hd hM hN hv4 q em hr
    have h1 := (WB_e q.1).1
    have h2 := q.1.2.2.2.2.2.2.1
    omega
  | succ d ih =>
    intro h e m u v E v4 M N r hd hM hN hv4 q em hr
    obtain ⟨M, rfl⟩ : ∃ j, M = j + 1 := ⟨M - 1, by omega⟩
    obtain ⟨N, rfl⟩ : ∃ j, N = j + 1 := ⟨N - 1, by omega⟩
    have he := (WB_e q.1).1
    have hbud := q.1.2.2.2.2.2.2.1
    have h3 : v 3 = nI m := q.1.1.2.2.2.2.2.2.2.1
    have h0 : v 0 = nI T := q.1.1.2.1
    have hT : T ≤ 5600 := q.1.1.2.2.1
    obtain ⟨r1, g1, g2⟩ := x5_firstDue (F := F) (by omega) (m_X5_state v w) (m := m) (by omega) h3
    rw [hr] at g1
    have hr1 : r = r1 := Option.some.inj g1
    rw [← hr1] at g2
    have hT0 : (a_X5_state (m_X5_state v w) 0).toInt = (T : Int) := by
      show (v 0).toInt = _
      rw [h0, ni_int (by omega)]
    rw [hT0] at g2
    obtain ⟨re, f1, f2⟩ := e_first (F := F) (T := T) (m := m) hF (by omega) (by omega) (E := E) (R := RV v) (s_L_hear_l3 F N) (by rw [em.1.1.1]; exact h0) (by rw [em.1.1.2.2.1]; exact h3) em.2.2.2.1 em.2.2.2.2.1
    have hstep : s_L_hear_l3 F (N + 1) E v4 = s_L_hear_b62 F (s_L_hear_l3 F N) E re := by rw [e_L_hear_l3, if_neg hv4, f1]
    rcases g2 with ⟨z1, z2⟩ | ⟨i, z1, z2, z3⟩
    · have hre : re = -1 := by
        rcases f2 with ⟨y1, -⟩ | ⟨b, -, y2, y3⟩
        · exact y1
        · have := z2 b y2.1
          have e : RV (a_X5_state (m_X5_state v w)) = RV v := rfl
          rw [e] at this
          omega
      refine ⟨v, E, m, ?_, ?_, em, h3, by omega⟩
      · rw [e_X5_hearDue_l5, z1, if_pos rfl]
      · rw [hstep, hre]
        unfold s_L_hear_b62
        rw [if_neg (by decide)]
    · have e : RV (a_X5_state (m_X5_state v w)) = RV v := rfl
      rw [e] at z2 z3
      have hre : re = nI i := by
        rcases f2 with ⟨-, y2⟩ | ⟨b, y1, y2, y3⟩
        · have := y2 i z2.1
          omega
        · rw [y1, fm_unique y2 z2]
      obtain ⟨m, rfl⟩ : ∃ j, m = j + 1 := ⟨m - 1, by have := z2.1; omega⟩
      have hi := z2.1
      obtain ⟨e1, m1, u1, v1, k1, k2, k3, k4, k5⟩ := x_hear (F := F) (by omega) (w := m_X5_state v w) q z2 z3
      obtain ⟨v1', E1, m1', l1, l2, l3, l4, l5⟩ := e_hears hF hB (w := m_X5_state v w) q em z2
      have k2' : s_X5_hears F (m_X5_state v w) (nI i) = some (m_X5_state v1 w) := k2
      have l1' : s_X5_hears F (m_X5_state v w) (nI i) = some (m_X5_state v1' w) := l1
      have hvv : v1 = v1' := st_inj (k2'.symm.trans l1')
      subst hvv
      have hm1 := (WB_e k3.1).2.2
      have em1 : EM 6 m1 v1 E1 := l3.to l4 k3.1.1.2.2.2.2.2.2.2.1 (by omega) (by omega)
      obtain ⟨r2, g3, -⟩ := x5_firstDue (F := F) (by omega) (m_X5_state v1 w) (m := m1) (by omega) k3.1.1.2.2.2.2.2.2.2.1
      obtain ⟨v2, E2, m2, p1, p2, p3, p4, p5⟩ := ih (h + 1) e1 m1 u1 v1 E1 (nI i) M N r2 (by omega) (by omega) (by omega) (ni_nneg (by omega)) k3 em1 g3
      refine ⟨v2, E2, m2, ?_, ?_, p3, p4, p5⟩
      · rw [e_X5_hearDue_l5, z1, if_neg (nI_ne (by omega)), k2', Option.bind_some, g3, Option.bind_some]
        exact p1
      · rw [hstep, hre, l2]
        exact p2
/-- all that is due is heard -/
theorem e_hear {F : Nat} (hF : 6400 < F) {B T e h m : Nat} (hB : B ≤ 32) {u : S_X3} {w : S_X5} {E : S_XE} (q : WX G0 B T 6 e h m u (a_X5_state w)) (em : EM 6 m (a_X5_state w) E) :
    ∃ v' E' m', s_X5_hearDue F w = some (m_X5_state v' w) ∧ s_L_hear F E = some E' ∧ EM 6 m' v' E' ∧ v' 3 = nI m' ∧ m' ≤ 100 := by
  have he := (WB_e q.1).1
  have hbud := q.1.2.2.2.2.2.2.1
  obtain ⟨r, g1, -⟩ := x5_firstDue (F := F) (by omega) w (m := m) (by omega) q.1.1.2.2.2.2.2.2.2.1
  obtain ⟨v', E', m', p1, p2, p3, p4, p5⟩ := e_hearLoop hF w hB (60 - h) h e m u (a_X5_state w) E 0 F F r (by omega) (by omega) (by omega) (by decide) q em g1
  refine ⟨v', E', m', ?_, p2, p3, p4, p5⟩
  unfold s_X5_hearDue
  rw [g1, Option.bind_some]
  exact p1
