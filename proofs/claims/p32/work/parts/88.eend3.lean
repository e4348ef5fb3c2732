/-! an end, in the engine and the model: whole -/
theorem e_start {F : Nat} (E : S_XE) {t : Nat} (ht : t < 6) {mask how : Int32} (hh : (how = 1 ∧ mask = 0) ∨ (how = 2 ∧ ¬ mask = 0)) :
    ∃ Q H, s_L_end F E (nI t) mask = s_L_end_l81 F (nI t) mask F (Q, H, E.2.2.1, E.2.2.2) (nI (4 * t)) ∧
      (∀ k, Q k = if k = 4 then E.1 4 + (if how = 2 then 1 else 0) else if k = 3 then E.1 3 + 1 else E.1 k) ∧
      (∀ k, H k = if k = 8 * t + 7 then E.1 0 else if k = 8 * t + 5 then how else if k = 8 * t + 4 then E.1 3 else if k = 8 * t + 3 then 0 else if k = 8 * t then 0 else E.2.1 k) := by
  obtain ⟨q, th, sl, re⟩ := E
  obtain ⟨q1, hq1⟩ : ∃ q1, q1 = upd q 3 (q 3 + 1) := ⟨_, rfl⟩
  have q14 : q1 4 = q 4 := by rw [hq1, upd_ne _ _ (by omega)]
  have q10 : q1 0 = q 0 := by rw [hq1, upd_ne _ _ (by omega)]
  obtain ⟨h1, hh1⟩ : ∃ h1, h1 = upd th (8 * t) 0 := ⟨_, rfl⟩
  obtain ⟨h2, hh2⟩ : ∃ h2, h2 = upd h1 (8 * t + 3) 0 := ⟨_, rfl⟩
  obtain ⟨h3, hh3⟩ : ∃ h3, h3 = upd h2 (8 * t + 4) (q 3) := ⟨_, rfl⟩
  obtain ⟨h4, hh4⟩ : ∃ h4, h4 = upd h3 (8 * t + 5) how := ⟨_, rfl⟩
  obtain ⟨h5, hh5⟩ : ∃ h5, h5 = upd h4 (8 * t + 7) (q 0) := ⟨_, rfl⟩
  have e3 : 8 * nI t + 3 = nI (8 * t + 3) := ni_8tp t 3
  have e4 : 8 * nI t + 4 = nI (8 * t + 4) := ni_8tp t 4
  have e5 : 8 * nI t + 5 = nI (8 * t + 5) := ni_8tp t 5
  have e7 : 8 * nI t + 7 = nI (8 * t + 7) := ni_8tp t 7
  have e44 : (4 : Int32) * nI t = nI (4 * t) := by rw [show (4 : Int32) = nI 4 from rfl, ni_mul]
  have n0 : (nI (8 * t)).toNatClampNeg = 8 * t := ni_nat (by omega)
  have n3 : (nI (8 * t + 3)).toNatClampNeg = 8 * t + 3 := ni_nat (by omega)
  have n4 : (nI (8 * t + 4)).toNatClampNeg = 8 * t + 4 := ni_nat (by omega)
  have n5 : (nI (8 * t + 5)).toNatClampNeg = 8 * t + 5 := ni_nat (by omega)
  have n7 : (nI (8 * t + 7)).toNatClampNeg = 8 * t + 7 := ni_nat (by omega)
  have b48 : ∀ p2 : Int32, p2 = how → s_L_end_b48 F (q1, h3, sl, re) (nI t) mask (nI (8 * t + 5)) p2 = s_L_end_l81 F (nI t) mask F (upd q1 4 (q1 4 + (if how = 2 then 1 else 0)), h5, sl, re) (nI (4 * t)) := by
    intro p2 hp2
    unfold s_L_end_b48
    dsimp only [lf_let, a_XE_q, a_XE_th, m_XE_q, m_XE_th]
    rw [if_pos (ni_lx (show 8 * t + 5 < 48 by omega) (by decide)), e7, if_pos (ni_lx (show 8 * t + 7 < 48 by omega) (by decide)), n5, n7, i_0, i_4, hp2, ← hh4, q10, ← hh5, e44]
    rcases hh with ⟨z1, z2⟩ | ⟨z1, z2⟩
    · rw [if_pos z2, if_neg (by rw [z1]; decide)]
    · rw [if_neg z2, if_pos z1]
  refine ⟨upd q1 4 (q1 4 + (if how = 2 then 1 else 0)), h5, ?_, fun k => ?_, fun k => ?_⟩
  · unfold s_L_end
    dsimp only [lf_let, a_XE_q, a_XE_th, m_XE_q, m_XE_th]
    rw [ni_8t, if_pos (ni_lx (show 8 * t < 48 by omega) (by decide)), ← ni_8t, e3, if_pos (ni_lx (show 8 * t + 3 < 48 by omega) (by decide)), e4, if_pos (ni_lx (show 8 * t + 4 < 48 by omega) (by decide)), ni_8t, n0, n3, n4, i_3, ← hh1, ← hh2, ← hq1, ← hh3, ← ni_8t, e5]
    rcases hh with ⟨z1, z2⟩ | ⟨z1, z2⟩
    · rw [if_pos z2]; exact b48 1 z1.symm
    · rw [if_neg z2]; exact b48 2 z1.symm
  · rw [q14, hq1]; rfl
  · rw [hh5, hh4, hh3, hh2, hh1]; rfl
theorem EM.start {e m : Nat} {v v' : Nat → Int32} {E : S_XE} (em : EM 6 m v E) (he : e < 24) {t : Nat} (ht : t < 6) {how : Int32} {Q H : Nat → Int32}
    (hv : ∀ k, v' k = if k = 5 then v 5 + (if how = 2 then 1 else 0) else if k = 4 then v 4 + 1 else if k = 353 + e then nI t else if k = 17 + 10 * t + 6 then v 0 else if k = 17 + 10 * t + 5 then v 4 else if k = 17 + 10 * t + 7 then how else if k = 17 + 10 * t + 3 then 0 else if k = 17 + 10 * t then 0 else v k)
    (hQ : ∀ k, Q k = if k = 4 then E.1 4 + (if how = 2 then 1 else 0) else if k = 3 then E.1 3 + 1 else E.1 k)
    (hH : ∀ k, H k = if k = 8 * t + 7 then E.1 0 else if k = 8 * t + 5 then how else if k = 8 * t + 4 then E.1 3 else if k = 8 * t + 3 then 0 else if k = 8 * t then 0 else E.2.1 k) : EM 6 m v' (Q, H, E.2.2.1, E.2.2.2) := by
  obtain ⟨⟨⟨a0, a1, a2, a3, a4, a5, a6⟩, a7⟩, b, c, d1, d2, d3⟩ := em
  have lo : ∀ k, k ≠ 5 → k ≠ 4 → k ≠ 353 + e → k ≠ 17 + 10 * t + 6 → k ≠ 17 + 10 * t + 5 → k ≠ 17 + 10 * t + 7 → k ≠ 17 + 10 * t + 3 → k ≠ 17 + 10 * t → v' k = v k := by
    intro k a1 a2 a3 a4 a5 a6 a7 a8
    rw [hv, if_neg a1, if_neg a2, if_neg a3, if_neg a4, if_neg a5, if_neg a6, if_neg a7, if_neg a8]
  have Qlo : ∀ k, k ≠ 4 → k ≠ 3 → Q k = E.1 k := fun k h1 h2 => by rw [hQ, if_neg h1, if_neg h2]
  have Hlo : ∀ k, k ≠ 8 * t + 7 → k ≠ 8 * t + 5 → k ≠ 8 * t + 4 → k ≠ 8 * t + 3 → k ≠ 8 * t → H k = E.2.1 k := fun k h1 h2 h3 h4 h5 => by rw [hH, if_neg h1, if_neg h2, if_neg h3, if_neg h4, if_neg h5]
  have row : ∀ i, i < m → RV v' i = RV v i := fun i hi => RV_v (m := m) (fun k h1 _ => lo k (by omega) (by omega) (by omega) (by omega) (by omega) (by omega) (by omega) (by omega)) hi
  refine ⟨⟨⟨?_, ?_, ?_, ?_, ?_, ?_, ?_⟩, fun i hi => ?_⟩, fun s hs => ?_, ⟨fun k hk => ?_, fun k hk => ?_⟩, fun i hi => ?_, fun i i' hij hi => ?_, fun i hi => ?_⟩
  · show Q 0 = _
    rw [Qlo _ (by omega) (by omega), lo _ (by omega) (by omega) (by omega) (by omega) (by omega) (by omega) (by omega) (by omega)]; exact a0
  · show Q 1 = _
    rw [Qlo _ (by omega) (by omega), lo _ (by omega) (by omega) (by omega) (by omega) (by omega) (by omega) (by omega) (by omega)]; exact a1
  · show Q 2 = _
    rw [Qlo _ (by omega) (by omega), lo _ (by omega) (by omega) (by omega) (by omega) (by omega) (by omega) (by omega) (by omega)]; exact a2
  · show Q 3 = _
    rw [hQ, if_neg (by omega), if_pos rfl, hv, if_neg (by omega), if_pos rfl, a3]
  · show Q 4 = _
    rw [hQ, if_pos rfl, hv, if_pos rfl, a4]
  · show Q 5 = _
    rw [Qlo _ (by omega) (by omega), lo _ (by omega) (by omega) (by omega) (by omega) (by omega) (by omega) (by omega) (by omega)]; exact a5
  · show Q 6 = _
    rw [Qlo _ (by omega) (by omega), lo _ (by omega) (by omega) (by omega) (by omega) (by omega) (by omega) (by omega) (by omega)]; exact a6
  · show Q (7 + i) = _
    rw [Qlo _ (by omega) (by omega), lo _ (by omega) (by omega) (by omega) (by omega) (by omega) (by omega) (by omega) (by omega)]; exact a7 i hi
  · obtain ⟨b0, b1, b2, b3, b4, b5, b6⟩ := b s hs
    show H (8 * s) = _ ∧ H (8 * s + 1) = _ ∧ H (8 * s + 2) = _ ∧ H (8 * s + 3) = _ ∧ ((_ → _ ∧ _) ∧ (_ → H (8 * s + 4) = _ ∧ H (8 * s + 7) = _)) ∧ H (8 * s + 5) = _ ∧ H (8 * s + 6) = _
    by_cases hst : s = t
    · subst hst
      have q0 : v' (17 + 10 * s) = 0 := by
        rw [hv, if_neg (by omega), if_neg (by omega), if_neg (by omega), if_neg (by omega), if_neg (by omega), if_neg (by omega), if_neg (by omega), if_pos rfl]
      have q3 : v' (17 + 10 * s + 3) = 0 := by
        rw [hv, if_neg (by omega), if_neg (by omega), if_neg (by omega), if_neg (by omega), if_neg (by omega), if_neg (by omega), if_pos rfl]
      have q7 : v' (17 + 10 * s + 7) = how := by
        rw [hv, if_neg (by omega), if_neg (by omega), if_neg (by omega), if_neg (by omega), if_neg (by omega), if_pos rfl]
      have q5 : v' (17 + 10 * s + 5) = v 4 := by
        rw [hv, if_neg (by omega), if_neg (by omega), if_neg (by omega), if_neg (by omega), if_pos rfl]
      have q6 : v' (17 + 10 * s + 6) = v 0 := by
        rw [hv, if_neg (by omega), if_neg (by omega), if_neg (by omega), if_pos rfl]
      have p0 : H (8 * s) = 0 := by rw [hH, if_neg (by omega), if_neg (by omega), if_neg (by omega), if_neg (by omega), if_pos rfl]
      have p3 : H (8 * s + 3) = 0 := by rw [hH, if_neg (by omega), if_neg (by omega), if_neg (by omega), if_pos rfl]
      have p4 : H (8 * s + 4) = E.1 3 := by rw [hH, if_neg (by omega), if_neg (by omega), if_pos rfl]
      have p5 : H (8 * s + 5) = how := by rw [hH, if_neg (by omega), if_pos rfl]
      have p7 : H (8 * s + 7) = E.1 0 := by rw [hH, if_pos rfl]
      rw [p0, p3, p4, p5, p7, q0, q3, q5, q6, q7, Hlo (8 * s + 1) (by omega) (by omega) (by omega) (by omega) (by omega), Hlo (8 * s + 2) (by omega) (by omega) (by omega) (by omega) (by omega), Hlo (8 * s + 6) (by omega) (by omega) (by omega) (by omega) (by omega), lo (17 + 10 * s + 1) (by omega) (by omega) (by omega) (by omega) (by omega) (by omega) (by omega) (by omega), lo (17 + 10 * s + 2) (by omega) (by omega) (by omega) (by omega) (by omega) (by omega) (by omega) (by omega), lo (17 + 10 * s + 8) (by omega) (by omega) (by omega) (by omega) (by omega) (by omega) (by omega) (by omega)]
      exact ⟨rfl, b1, b2, rfl, ⟨fun z => absurd z (by decide), fun _ => ⟨a3, a0⟩⟩, rfl, b6⟩
    · rw [Hlo (8 * s) (by omega) (by omega) (by omega) (by omega) (by omega), Hlo (8 * s + 1) (by omega) (by omega) (by omega) (by omega) (by omega), Hlo (8 * s + 2) (by omega) (by omega) (by omega) (by omega) (by omega), Hlo (8 * s + 3) (by omega) (by omega) (by omega) (by omega) (by omega), Hlo (8 * s + 4) (by omega) (by omega) (by omega) (by omega) (by omega), Hlo (8 * s + 7) (by omega) (by omega) (by omega) (by omega) (by omega), Hlo (8 * s + 5) (by omega) (by omega) (by omega) (by omega) (by omega), Hlo (8 * s + 6) (by omega) (by omega) (by omega) (by omega) (by omega)]
      rw [lo (17 + 10 * s) (by omega) (by omega) (by omega) (by omega) (by omega) (by omega) (by omega) (by omega), lo (17 + 10 * s + 1) (by omega) (by omega) (by omega) (by omega) (by omega) (by omega) (by omega) (by omega), lo (17 + 10 * s + 2) (by omega) (by omega) (by omega) (by omega) (by omega) (by omega) (by omega) (by omega), lo (17 + 10 * s + 3) (by omega) (by omega) (by omega) (by omega) (by omega) (by omega) (by omega) (by omega), lo (17 + 10 * s + 5) (by omega) (by omega) (by omega) (by omega) (by omega) (by omega) (by omega) (by omega), lo (17 + 10 * s + 6) (by omega) (by omega) (by omega) (by omega) (by omega) (by omega) (by omega) (by omega), lo (17 + 10 * s + 7) (by omega) (by omega) (by omega) (by omega) (by omega) (by omega) (by omega) (by omega), lo (17 + 10 * s + 8) (by omega) (by omega) (by omega) (by omega) (by omega) (by omega) (by omega) (by omega)]
      exact ⟨b0, b1, b2, b3, b4, b5, b6⟩
  · rw [lo _ (by omega) (by omega) (by omega) (by omega) (by omega) (by omega) (by omega) (by omega)]; exact c.1 k hk
  · rw [lo _ (by omega) (by omega) (by omega) (by omega) (by omega) (by omega) (by omega) (by omega)]; exact c.2 k hk
  · rw [row i hi]; exact d1 i hi
  · rw [row i (by omega), row i' hi]; exact d2 i i' hij hi
  · rw [row i hi, lo _ (by omega) (by omega) (by omega) (by omega) (by omega) (by omega) (by omega) (by omega)]; exact d3 i hi
theorem e_end {F : Nat} (hF : 6400 < F) {T h e m : Nat} {E : S_XE} {w : S_X5} (mbq : MB T h m (a_X5_state w)) (h4 : a_X5_state w 4 = nI e) (he : e < 24) (h1 : a_X5_state w 1 = nI 6) (em : EM 6 m (a_X5_state w) E) (hb : h + m + 4 ≤ 63) {t : Nat} (ht : t < 6) {mask how : Int32}
    (hh : (how = 1 ∧ mask = 0) ∨ (how = 2 ∧ ¬ mask = 0)) (hz : ∀ o, o < 6 → zt w how o = mb mask o) (hs : ∀ j, j < 4 → a_X5_state w (257 + 4 * t + j) = -1 ∨ ∃ s, s < 6 ∧ a_X5_state w (257 + 4 * t + j) = nI s) :
    ∃ m' v' E', s_X5_ends F w (nI t) how = some (m_X5_state v' w) ∧ s_L_end F E (nI t) mask = some E' ∧ EM 6 m' v' E' ∧ MB T h m' v' ∧ m' ≤ m + 4 := by
  have hh' : how = 1 ∨ how = 2 := hh.imp And.left And.left
  obtain ⟨v1, hrun, hv1⟩ := md_start (F := F) w (show t < 24 by omega) he h4 hh'
  obtain ⟨Q, H, hrunE, hQ, hH⟩ := e_start (F := F) E ht hh
  have em1 := em.start he ht hv1 hQ hH
  have lo1 : ∀ k, k ≠ 5 → k ≠ 4 → k ≠ 353 + e → k ≠ 17 + 10 * t + 6 → k ≠ 17 + 10 * t + 5 → k ≠ 17 + 10 * t + 7 → k ≠ 17 + 10 * t + 3 → k ≠ 17 + 10 * t → v1 k = a_X5_state w k := by
    intro k a1 a2 a3 a4 a5 a6 a7 a8
    rw [hv1, if_neg a1, if_neg a2, if_neg a3, if_neg a4, if_neg a5, if_neg a6, if_neg a7, if_neg a8]
  have mb1 : MB T h m v1 := by
    obtain ⟨q1, q2, q3, q4, q5⟩ := mbq
    refine ⟨by rw [lo1 0 (by omega) (by omega) (by omega) (by omega) (by omega) (by omega) (by omega) (by omega)]; exact q1, q2, by rw [lo1 2 (by omega) (by omega) (by omega) (by omega) (by omega) (by omega) (by omega) (by omega)]; exact q3, by rw [lo1 3 (by omega) (by omega) (by omega) (by omega) (by omega) (by omega) (by omega) (by omega)]; exact q4, fun i hi => by rw [lo1 (8 + i) (by omega) (by omega) (by omega) (by omega) (by omega) (by omega) (by omega) (by omega)]; exact q5 i hi⟩
  obtain ⟨m', v2, E2, g1, g2, g3, g4, g5, g6⟩ := e_slots hF ht (mask := mask) (how := how) w hz 4 0 m F F v1 (Q, H, E.2.2.1, E.2.2.2) (by omega) (by omega) (by omega) mb1 em1 (by omega) (fun j hj => by
    rw [lo1 _ (by omega) (by omega) (by omega) (by omega) (by omega) (by omega) (by omega) (by omega)]; exact hs j hj)
  obtain ⟨b, b1, b2⟩ := md_hands (F := F) (by omega) w t how v2
  obtain ⟨v3, hv3⟩ : ∃ f : Nat → Int32, f = fun j => if 13 ≤ j ∧ j < 17 ∧ v2 j = nI t then -1 else v2 j := ⟨_, rfl⟩
  rw [← hv3] at b1
  have v3e : ∀ j, v3 j = if 13 ≤ j ∧ j < 17 ∧ v2 j = nI t then -1 else v2 j := fun j => by rw [hv3]
  have v3n : ∀ j, ¬ (13 ≤ j ∧ j < 17) → v3 j = v2 j := fun j hj => by rw [v3e, if_neg (fun z => hj ⟨z.1, z.2.1⟩)]
  have v21 : v2 1 = nI 6 := by
    rw [g6 1 (by omega) (by omega) (by omega) (by omega), lo1 1 (by omega) (by omega) (by omega) (by omega) (by omega) (by omega) (by omega) (by omega)]; exact h1
  obtain ⟨b', d1, d2⟩ := md_owners (F := F) (by omega) w t how (n := 6) (by omega) v3 (by rw [v3n 1 (by omega)]; exact v21) b
  obtain ⟨v4, hv4⟩ : ∃ f : Nat → Int32, f = fun j => if 257 ≤ j ∧ (j - 257) / 4 < 6 ∧ v3 (17 + 10 * ((j - 257) / 4)) = 1 ∧ zt w how ((j - 257) / 4) = false ∧ v3 j = nI t then -1 else v3 j := ⟨_, rfl⟩
  rw [← hv4] at d1
  have v4e : ∀ j, v4 j = if 257 ≤ j ∧ (j - 257) / 4 < 6 ∧ v3 (17 + 10 * ((j - 257) / 4)) = 1 ∧ zt w how ((j - 257) / 4) = false ∧ v3 j = nI t then -1 else v3 j := fun j => by rw [hv4]
  have v4n : ∀ j, ¬ ((13 ≤ j ∧ j < 17) ∨ (257 ≤ j ∧ j < 353)) → v4 j = v2 j := fun j hj => by rw [v4e, if_neg (by omega), v3n j (by omega)]
  obtain ⟨c, c1, c2⟩ := e_clear (F := F) hF E2 mask t
  obtain ⟨sl, hsl⟩ : ∃ sl : Nat → Int32, sl = fun k => if k < 28 ∧ clC E2.2.1 mask k = true ∧ E2.2.2.1 k = nI t then -1 else E2.2.2.1 k := ⟨_, rfl⟩
  rw [← hsl] at c1
  have sle : ∀ k, sl k = if k < 28 ∧ clC E2.2.1 mask k = true ∧ E2.2.2.1 k = nI t then -1 else E2.2.2.1 k := fun k => by rw [hsl]
  have eth : ∀ o, o < 6 → E2.2.1 (8 * o) = v3 (17 + 10 * o) := fun o ho => by rw [v3n _ (by omega)]; exact (g4.2.1 o ho).1
  have esl : ∀ k, k < 24 → E2.2.2.1 k = v3 (257 + k) := fun k hk => by rw [v3n _ (by omega)]; exact g4.2.2.1.1 k hk
  have ehd : ∀ k, k < 4 → E2.2.2.1 (24 + k) = v2 (13 + k) := fun k hk => g4.2.2.1.2 k hk
  have cc : ∀ k, k < 24 → (clC E2.2.1 mask k = true ↔ v3 (17 + 10 * (k / 4)) = 1 ∧ zt w how (k / 4) = false) := fun k hk => by
    unfold clC
    rw [decide_eq_false (by omega), Bool.false_or, eth _ (by omega), hz _ (by omega), Bool.and_eq_true, beq_iff_eq, Bool.not_eq_true']
  have hflag : b' = c := by
    rw [Bool.eq_iff_iff, d2, c2, b2]
    constructor
    · rintro (⟨k, hk, hk2⟩ | ⟨o, k, ho, hk, z1, z2, z3⟩)
      · refine ⟨24 + k, by omega, ?_, by rw [ehd k hk]; exact hk2⟩
        unfold clC
        rw [decide_eq_true (by omega)]; rfl
      · refine ⟨4 * o + k, by omega, (cc _ (by omega)).mpr ?_, ?_⟩
        · rw [show (4 * o + k) / 4 = o by omega]; exact ⟨z1, z2⟩
        · rw [esl _ (by omega), show 257 + (4 * o + k) = 257 + 4 * o + k by omega]; exact z3
    · rintro ⟨k, hk, z1, z2⟩
      by_cases h24 : k < 24
      · obtain ⟨z3, z4⟩ := (cc k h24).mp z1
        refine Or.inr ⟨k / 4, k % 4, by omega, by omega, z3, z4, ?_⟩
        rw [show 257 + 4 * (k / 4) + k % 4 = 257 + k by omega, ← esl k h24]; exact z2
      · refine Or.inl ⟨k - 24, by omega, ?_⟩
        rw [← ehd _ (by omega), show 24 + (k - 24) = k by omega]; exact z2
  subst hflag
  have em4 : EM 6 m' v4 (E2.1, E2.2.1, sl, E2.2.2.2) := by
    refine g4.hold v4n (fun k hk => ?_) (fun k hk => ?_)
    · rw [sle, v4e, show 257 + k - 257 = k by omega, esl k hk]
      by_cases hc : clC E2.2.1 mask k = true ∧ v3 (257 + k) = nI t
      · rw [if_pos ⟨by omega, hc⟩, if_pos ⟨by omega, by omega, ((cc k hk).mp hc.1).1, ((cc k hk).mp hc.1).2, hc.2⟩]
      · rw [if_neg (fun z => hc z.2), if_neg (fun z => hc ⟨(cc k hk).mpr ⟨z.2.2.1, z.2.2.2.1⟩, z.2.2.2.2⟩)]
    · rw [sle, v4e, if_neg (show ¬ (257 ≤ 13 + k ∧ _) by omega), v3e, ehd k hk]
      have hcl : clC E2.2.1 mask (24 + k) = true := by
        unfold clC
        rw [decide_eq_true (by omega)]; rfl
      by_cases hc : v2 (13 + k) = nI t
      · rw [if_pos ⟨by omega, hcl, hc⟩, if_pos ⟨by omega, by omega, hc⟩]
      · rw [if_neg (fun z => hc z.2.2), if_neg (fun z => hc z.2.2)]
  refine ⟨m', _, _, ?_, ?_, em4.flag ht (ev_b b'), ?_, g5⟩
  · have g1' : s_X5_ends_l94 F (nI t) how F (m_X5_state v1 w) 0 = _ := g1
    rw [hrun, g1', b1, d1]
    exact md_flag F w (by omega) v4 b'
  · rw [hrunE]
    have g2' : s_L_end_l81 F (nI t) mask F (Q, H, E.2.2.1, E.2.2.2) (nI (4 * t)) = _ := g2
    rw [g2', c1]
    exact e_flag F (E2.1, E2.2.1, sl, E2.2.2.2) ht b'
  · refine g3.v fun k hk => ?_
    rw [upd_ne _ _ (by omega), upd_ne _ _ (by omega), v4n k (by omega)]
