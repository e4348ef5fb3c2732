/-! what would be: the engine's question whole -/
section
variable {F B T e h m : Nat} {u : S_X4} {v : Nat → Int32} {E : S_XE}
/-- a copy of the engine's rows over others -/
def cpE (A C : S_XE) : S_XE := (fun k => if k < 12 then A.1 k else C.1 k, fun k => if k < 48 then A.2.1 k else C.2.1 k, fun k => if k < 28 then A.2.2.1 k else C.2.2.1 k, fun k => if k < 64 then A.2.2.2 k else C.2.2.2 k)
theorem KE.cp (q : KE B T e h m (a_X4_now u) v E) (C : S_XE) : KE B T e h m (a_X4_now u) v (cpE E C) := by
  have hm := q.m
  exact ⟨q.1, q.2.1.cg (by omega) (fun k hk => if_pos hk) (fun k hk => if_pos hk) (fun k hk => if_pos hk) (fun k hk => if_pos hk), q.2.2⟩
theorem e_suspSum (hF : 6400 < F) (x : S_XW) {s : Nat → Bool} (hs : ∀ t, t < 6 → a_XW_ts x (8 * t + 3) = if s t then 1 else 0) : s_L_would_l324 F x F 0 0 = s_L_would_b352 F x (nI (cn s 6)) := by
  have := lf_cnt (fun n k c => s_L_would_l324 F x n c (nI k)) 6 (fun c => s_L_would_b352 F x c) s 0 (n := F) (by omega) (fun n c => by
    rw [e_L_would_l324, if_pos (by decide)]) (fun n k c hk => by
    have e3 : 8 * nI k + 3 = nI (8 * k + 3) := ni_8tp k 3
    rw [e_L_would_l324, if_neg (il_nle hk (by decide)), e3, if_pos (ni_lx (show 8 * k + 3 < 48 by omega) (by decide)), ni_nat (by omega), hs k hk, ni_1]
    cases s k with
    | true => rw [if_pos rfl, if_pos rfl]
    | false => rw [if_neg Bool.false_ne_true, if_neg Bool.false_ne_true, Int32.add_zero])
  rw [Nat.zero_add] at this
  exact this
theorem e_tried (hF : 6400 < F) (q : KE B T e h m (a_X4_now u) v E) (nd : ND T m v) (C : S_XE) (p : Int32) :
    ∃ g' C', FX u g' ∧ s_L_would_b275 F (tW E C u) p p = some (true, tW E C' g') := by
  have q0 := q.cp C
  obtain ⟨y0, E', t0, a0, -, -, -⟩ := k_ifTried hF q0 nd
  have f0 := FX.ah u y0
  obtain ⟨y1, E1, t1, -, a1, -, hs1⟩ := k_ifTried hF (q0.fx f0) nd
  have f1 := FX.ah (m_X4_ahead y0 u) y1
  obtain ⟨y2, E2, t2, -, -, a2, -⟩ := k_ifTried hF (q0.fx (f0.tr f1)) nd
  have f2 := FX.ah (m_X4_ahead y1 (m_X4_ahead y0 u)) y2
  have hE1 : E1 = E' := Option.some.inj (t1.symm.trans t0)
  have hE2 : E2 = E' := Option.some.inj (t2.symm.trans t0)
  rw [hE1] at hs1
  rw [hE2] at a2
  have c3 : (cpE E C).1 3 = E.1 3 := (if_pos (by omega) : (if 3 < 12 then E.1 3 else C.1 3) = E.1 3)
  have c5 : (cpE E C).1 5 = E.1 5 := (if_pos (by omega) : (if 5 < 12 then E.1 5 else C.1 5) = E.1 5)
  rw [c3] at a0
  rw [c5] at a2
  obtain ⟨all, l1, l2, l3⟩ := e_held hF q.eh
  obtain ⟨ss', w1⟩ := e_cutLoop hF (q.fx ((f0.tr f1).tr f2)) (all := all) (by rw [((f0.tr f1).tr f2).1]; exact l2) l3 E'.1 E'.2.1 E'.2.2.1 E'.2.2.2
  refine ⟨m_X4_ahead y2 (m_X4_ahead y1 (m_X4_ahead y0 u)), (E'.1, E'.2.1, ss', E'.2.2.2), (f0.tr f1).tr f2, ?_⟩
  have cp1 : s_L_copy F 12 12 (a_XW_q (tW E C u)) (a_XW_qs (tW E C u)) = some (cpE E C).1 := e_copy hF (by omega) _ _
  have cp2 : s_L_copy F 48 48 (a_XW_th (tW E C u)) (a_XW_ts (tW E C u)) = some (cpE E C).2.1 := e_copy hF (by omega) _ _
  have cp3 : s_L_copy F 28 28 (a_XW_sl (tW E C u)) (a_XW_ss (tW E C u)) = some (cpE E C).2.2.1 := e_copy hF (by omega) _ _
  have cp4 : s_L_copy F 64 64 (a_XW_re (tW E C u)) (a_XW_rs (tW E C u)) = some (cpE E C).2.2.2 := e_copy hF (by omega) _ _
  have t0' : s_L_trial F ((cpE E C).1, (cpE E C).2.1, (cpE E C).2.2.1, (cpE E C).2.2.2) = some E' := t0
  have hst : m_XW_rs (a_XE_re E') (m_XW_ss (a_XE_sl E') (m_XW_ts (a_XE_th E') (m_XW_qs (a_XE_q E') (tW E C u)))) = tW E E' u := rfl
  unfold s_L_would_b275
  rw [if_pos rfl, cp1, Option.bind_some, cp2, Option.bind_some, cp3, Option.bind_some, cp4, Option.bind_some, t0', Option.bind_some, hst, e_suspSum hF (tW E E' u) (s := mb (a_X3_suspects y1)) hs1]
  have a0' : s_X4_ifTried F (a_XW_g (tW E E' u)) 0 = _ := a0
  have d0 : E'.1 3 - E.1 3 = a_XW_qs (tW E E' u) 3 - a_XW_q (tW E E' u) 3 := rfl
  have d2 : E'.1 5 - E.1 5 = a_XW_qs (tW E E' u) 5 - a_XW_q (tW E E' u) 5 := rfl
  have l1' : s_L_held F 48 28 (a_XW_th (tW E E' u)) (a_XW_sl (tW E E' u)) = some all := l1
  unfold s_L_would_b352
  rw [a0', Option.bind_some, i_3, i_5, if_pos d0, a1, Option.bind_some, if_pos rfl, a2, Option.bind_some, if_pos d2, l1', Option.bind_some]
  exact w1
theorem e_would (hF : 6400 < F) (q : KE B T e h m (a_X4_now u) v E) (nd : ND T m v) (C : S_XE) {t c : Nat} (ht : t < 6) (hc1 : 1 ≤ c) (hc : c ≤ 30) :
    ∃ g' C', FX u g' ∧ s_L_would F (tW E C u) (nI t) (nI c) = some (true, tW E C' g') := by
  have q0 := q.cp C
  obtain ⟨U, V, Es, es, hs, ms, a1, a2, a3, a4, a5, a6, ch⟩ := chain hF q0.2.2.1 q0.1 nd q0.2.1 30 (by have := q.2.2.2; omega)
  have hE : ∀ k, k < 30 → s_L_tick F (Es k) = some (Es (k + 1)) := fun k hk => (ch.2 k hk).2.1
  obtain ⟨L, hL⟩ : ∃ L : Nat → Bool, L = fun k => ((Es k).2.1 (8 * t) == 1) := ⟨_, rfl⟩
  have Le : ∀ k, ((Es k).2.1 (8 * t) == 1) = L k := fun k => by rw [hL]
  obtain ⟨g1, f1, w1⟩ := e_wouldLoop hF (E := E) q0 nd a3 hE (fun k hk => if_pos hk) ht hc1 hc 30 0 F u (by omega) (by omega) (FX.rf u)
  rw [← hL] at w1
  -- when the thing ends
  obtain ⟨z, g2, Es', z1, f2, z2, z3, z4, z5, z6, z7⟩ := k_endsIn hF (q0.fx f1) nd ht
  have hEE : ∀ k, k ≤ 30 → Es' k = Es k := tick_unique (F := F) (n := 30) (A := Es') (C := Es) (z2.trans a3.symm) (fun k hk => z3 k (by omega)) hE
  obtain ⟨L', hL'⟩ : ∃ L' : Nat → Bool, L' = fun k => ((Es' k).2.1 (8 * t) == 1) := ⟨_, rfl⟩
  have Le' : ∀ k, ((Es' k).2.1 (8 * t) == 1) = L' k := fun k => by rw [hL']
  simp only [Le'] at z4 z5 z6 z7
  have LL : ∀ k, k ≤ 30 → L' k = L k := fun k hk => by rw [← Le' k, ← Le k, hEE k hk]
  have mono : ∀ k, k < 30 → L k = false → L (k + 1) = false := fun k hk hz => by
    rw [← LL (k + 1) (by omega)]
    exact z7 k (by omega) (by rw [LL k (by omega)]; exact hz)
  obtain ⟨s1, s2⟩ := dE_spec (L := L) (n := 30) (by omega) mono 30 (Nat.le_refl _)
  -- bears
  obtain ⟨zb, g3, b1, f3, b2⟩ := k_bears hF ((q0.fx f1).fx f2) nd a3 hE ht
  rw [Le 30] at b2
  have hfin : ∀ p, ∃ g' C', FX u g' ∧ s_L_would_b275 F (tW E (Es 30) g3) p p = some (true, tW E C' g') := fun p => by
    obtain ⟨g', C', k1, k2⟩ := e_tried hF (((q.fx f1).fx f2).fx f3) nd (Es 30) p
    exact ⟨g', C', ((f1.tr f2).tr f3).tr k1, k2⟩
  have hb252 : ∃ g' C', FX u g' ∧ s_L_would_b252 F (tW E (Es 30) g2) (nI t) (dE L 30) = some (true, tW E C' g') := by
    have b1' : s_X4_bears F (a_XW_g (tW E (Es 30) g2)) (nI t) = some (zb, g3) := b1
    have hst : m_XW_g g3 (tW E (Es 30) g2) = tW E (Es 30) g3 := rfl
    unfold s_L_would_b252
    rw [b1', Option.bind_some]
    dsimp only
    rw [hst]
    cases hl : L 30 with
    | true =>
      have hzb : ¬ zb = 0 := fun c => by rw [b2.mp c] at hl; cases hl
      rw [if_neg hzb, s1 hl]
      unfold s_L_would_b265
      rw [if_pos i32_neg1]
      exact hfin 0
    | false =>
      have hd : ¬ dE L 30 < 0 := by
        rcases s2 hl with ⟨-, c⟩ | ⟨j, c1, -, -, c⟩
        · rw [c]; decide
        · rw [c]; exact ni_nneg (by omega)
      rw [if_pos (b2.mpr hl)]
      unfold s_L_would_b265
      rw [if_neg hd]
      exact hfin 1
  have hb216 : ∃ g' C', FX u g' ∧ s_L_would_b216 F (tW E (Es 30) g1) (nI t) (dE L 30) = some (true, tW E C' g') := by
    have z1' : s_X4_endsIn F (a_XW_g (tW E (Es 30) g1)) (nI t) = some (z, g2) := z1
    have hst : m_XW_g g2 (tW E (Es 30) g1) = tW E (Es 30) g2 := rfl
    unfold s_L_would_b216
    rw [z1', Option.bind_some]
    dsimp only
    rw [hst]
    cases hl : L 30 with
    | true =>
      have hz : z < 0 ∨ 30 < z := by
        cases hl2 : L' 200 with
        | true => rw [z6 hl2]; exact Or.inl i32_neg1
        | false =>
          obtain ⟨k, k1, k2, k3, k4⟩ := first_end (L := L') 170 30 (by rw [LL 30 (Nat.le_refl _)]; exact hl) hl2
          rw [z5 k (by omega) k3 k4]
          exact Or.inr ((ni_lt (a := 30) (by omega) (by omega)).mpr (by omega))
      rw [s1 hl] at hb252 ⊢
      rw [if_pos i32_neg1]
      rcases hz with hz | hz
      · rw [if_pos hz]; exact hb252
      · by_cases hz0 : z < 0
        · rw [if_pos hz0]; exact hb252
        · rw [if_neg hz0, if_pos hz]; exact hb252
    | false =>
      rcases s2 hl with ⟨c1, c2⟩ | ⟨j, c1, c2, c3, c4⟩
      · have hz : z = 0 := z4 (by rw [LL 0 (by omega)]; exact c1)
        rw [c2] at hb252 ⊢
        rw [if_neg (by decide), if_pos hz]; exact hb252
      · have hz : z = nI (j + 1) := z5 j (by omega) (by rw [LL j (by omega)]; exact c2) (by rw [LL (j + 1) (by omega)]; exact c3)
        rw [c4] at hb252 ⊢
        rw [if_neg (ni_nneg (by omega)), if_pos hz]; exact hb252
  obtain ⟨g', C', h1, h2⟩ := hb216
  refine ⟨g', C', h1, ?_⟩
  have cp1 : s_L_copy F 12 12 (a_XW_q (tW E C u)) (a_XW_qs (tW E C u)) = some (cpE E C).1 := e_copy hF (by omega) _ _
  have cp2 : s_L_copy F 48 48 (a_XW_th (tW E C u)) (a_XW_ts (tW E C u)) = some (cpE E C).2.1 := e_copy hF (by omega) _ _
  have cp3 : s_L_copy F 28 28 (a_XW_sl (tW E C u)) (a_XW_ss (tW E C u)) = some (cpE E C).2.2.1 := e_copy hF (by omega) _ _
  have cp4 : s_L_copy F 64 64 (a_XW_re (tW E C u)) (a_XW_rs (tW E C u)) = some (cpE E C).2.2.2 := e_copy hF (by omega) _ _
  have hst : m_XW_rs (cpE E C).2.2.2 (m_XW_ss (cpE E C).2.2.1 (m_XW_ts (cpE E C).2.1 (m_XW_qs (cpE E C).1 (tW E C u)))) = tW E (Es 0) u := by rw [a3]; rfl
  have hlv : s_L_lives F 48 (cpE E C).2.1 (nI t) = some (L 0) := by
    rw [e_lives F _ ht, ← Le 0, a3]
  unfold s_L_would
  rw [cp1, Option.bind_some, cp2, Option.bind_some, cp3, Option.bind_some, cp4, Option.bind_some, hlv, Option.bind_some, hst]
  have hd0 : dE L 0 = if L 0 then -1 else 0 := rfl
  cases hl0 : L 0 with
  | true =>
    rw [hl0, if_pos rfl] at hd0
    rw [hd0] at w1
    rw [if_pos rfl]
    exact w1.trans h2
  | false =>
    rw [hl0, if_neg Bool.false_ne_true] at hd0
    rw [hd0] at w1
    rw [if_neg Bool.false_ne_true]
    exact w1.trans h2
end
