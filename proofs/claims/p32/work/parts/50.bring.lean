/-! a new thing, on both sides -/
theorem md_added {F : Nat} (hF : 100 < F) (w : S_X5) {n : Nat} (hn : n < 24) (h1 : a_X5_state w 1 = nI n) (rank : Int32) :
    ∃ v', s_X5_added F w rank = some (nI n, m_X5_state v' w) ∧ ∀ k, v' k = if k = 1 then a_X5_state w 1 + 1 else if 257 + 4 * n ≤ k ∧ k < 257 + 4 * n + 4 then -1 else if k = 17 + 10 * n + 6 then -1 else if k = 17 + 10 * n + 5 then -1 else if k = 17 + 10 * n + 4 then a_X5_state w 0 else if k = 17 + 10 * n + 1 then rank else if k = 17 + 10 * n then 1 else if 17 + 10 * n ≤ k ∧ k < 17 + 10 * n + 10 then 0 else a_X5_state w k := by
  obtain ⟨v, hv⟩ : ∃ v, v = a_X5_state w := ⟨_, rfl⟩
  have i1 : a_X5_state w (1 : Int32).toNatClampNeg = nI n := h1
  -- ten parts
  have key1 := lf_for (fun nn k (a : Nat → Int32) => s_X5_added_l9 F rank (nI n) nn (m_X5_state a w) (nI k)) 10 (fun a => s_X5_added_b28 F (m_X5_state a w) rank (nI n)) (fun k a => upd a (17 + 10 * n + k) 0) (fun k a => ∀ j, a j = if 17 + 10 * n ≤ j ∧ j < 17 + 10 * n + k then 0 else v j)
    (fun nn a _ => by
      show s_X5_added_l9 F rank (nI n) (nn + 1) (m_X5_state a w) (nI 10) = _
      rw [e_X5_added_l9, if_pos (by decide)])
    (fun nn k a hk hp => by
      refine ⟨?_, fun j => ?_⟩
      · rw [e_X5_added_l9, if_neg (il_nle hk (by decide)), x5_setPart F _ (by omega), Option.bind_some, ni_1]
      · by_cases hj : j = 17 + 10 * n + k
        · rw [hj, upd_at, if_pos (by omega)]
        · rw [upd_ne _ _ hj, hp j]
          by_cases hc : 17 + 10 * n ≤ j ∧ j < 17 + 10 * n + k
          · rw [if_pos hc, if_pos (by omega)]
          · rw [if_neg hc, if_neg (by omega)])
    10 0 v F rfl (by omega) (fun j => by rw [if_neg (by omega)])
  obtain ⟨a, ha⟩ : ∃ a, a = fr (fun k a => upd a (17 + 10 * n + k) 0) 0 10 v := ⟨_, rfl⟩
  rw [← ha] at key1
  obtain ⟨k1, k2⟩ := key1
  have k1' : s_X5_added F w rank = s_X5_added_b28 F (m_X5_state a w) rank (nI n) := by
    unfold s_X5_added
    rw [i1]
    rw [hv] at k1
    exact k1
  obtain ⟨f1, h1⟩ : ∃ f, f = upd a (17 + 10 * n) 1 := ⟨_, rfl⟩
  obtain ⟨f2, h2⟩ : ∃ f, f = upd f1 (17 + 10 * n + 1) rank := ⟨_, rfl⟩
  have e20 : f2 0 = v 0 := by rw [h2, upd_ne _ _ (by omega), h1, upd_ne _ _ (by omega), k2, if_neg (by omega)]
  obtain ⟨f3, h3⟩ : ∃ f, f = upd f2 (17 + 10 * n + 4) (v 0) := ⟨_, rfl⟩
  obtain ⟨f4, h4⟩ : ∃ f, f = upd f3 (17 + 10 * n + 5) (-1) := ⟨_, rfl⟩
  obtain ⟨f5, h5⟩ : ∃ f, f = upd f4 (17 + 10 * n + 6) (-1) := ⟨_, rfl⟩
  have p1 : s_X5_setPart F (m_X5_state a w) (nI n) 0 1 = some (m_X5_state f1 w) := by
    have h := x5_setPart F (m_X5_state a w) (t := n) (p := 0) (by omega) 1
    rw [h1]; exact h
  have p2 : s_X5_setPart F (m_X5_state f1 w) (nI n) 1 rank = some (m_X5_state f2 w) := by
    have h := x5_setPart F (m_X5_state f1 w) (t := n) (p := 1) (by omega) rank
    rw [h2]; exact h
  have p3 : s_X5_setPart F (m_X5_state f2 w) (nI n) 4 (a_X5_state (m_X5_state f2 w) (0 : Int32).toNatClampNeg) = some (m_X5_state f3 w) := by
    have h := x5_setPart F (m_X5_state f2 w) (t := n) (p := 4) (by omega) (f2 0)
    rw [h3, ← e20]; exact h
  have p4 : s_X5_setPart F (m_X5_state f3 w) (nI n) 5 (-1) = some (m_X5_state f4 w) := by
    have h := x5_setPart F (m_X5_state f3 w) (t := n) (p := 5) (by omega) (-1)
    rw [h4]; exact h
  have p5 : s_X5_setPart F (m_X5_state f4 w) (nI n) 6 (-1) = some (m_X5_state f5 w) := by
    have h := x5_setPart F (m_X5_state f4 w) (t := n) (p := 6) (by omega) (-1)
    rw [h5]; exact h
  have e51 : f5 1 = v 1 := by rw [h5, upd_ne _ _ (by omega), h4, upd_ne _ _ (by omega), h3, upd_ne _ _ (by omega), h2, upd_ne _ _ (by omega), h1, upd_ne _ _ (by omega), k2, if_neg (by omega)]
  -- four slots
  have key2 := lf_for (fun nn k (b : Nat → Int32) => s_X5_added_l71 F (nI n) nn (m_X5_state b w) (nI k)) 4 (fun b => some (nI n, m_X5_state (upd b 1 (b 1 + 1)) w)) (fun k b => upd b (257 + 4 * n + k) (-1)) (fun k b => ∀ j, b j = if 257 + 4 * n ≤ j ∧ j < 257 + 4 * n + k then -1 else f5 j)
    (fun nn b _ => by
      show s_X5_added_l71 F (nI n) (nn + 1) (m_X5_state b w) (nI 4) = _
      rw [e_X5_added_l71, if_pos (by decide)]
      rfl)
    (fun nn k b hk hp => by
      refine ⟨?_, fun j => ?_⟩
      · rw [e_X5_added_l71, if_neg (il_nle hk (by decide)), ix_slot, if_pos (ni_lx (show 257 + 4 * n + k < 20377 by omega) (by decide)), ni_nat (by omega), ni_1]
      · by_cases hj : j = 257 + 4 * n + k
        · rw [hj, upd_at, if_pos (by omega)]
        · rw [upd_ne _ _ hj, hp j]
          by_cases hc : 257 + 4 * n ≤ j ∧ j < 257 + 4 * n + k
          · rw [if_pos hc, if_pos (by omega)]
          · rw [if_neg hc, if_neg (by omega)])
    4 0 f5 F rfl (by omega) (fun j => by rw [if_neg (by omega)])
  obtain ⟨b, hb⟩ : ∃ b, b = fr (fun k b => upd b (257 + 4 * n + k) (-1)) 0 4 f5 := ⟨_, rfl⟩
  rw [← hb] at key2
  obtain ⟨m1, m2⟩ := key2
  refine ⟨upd b 1 (b 1 + 1), ?_, fun k => ?_⟩
  · rw [k1']
    unfold s_X5_added_b28
    have m1' : s_X5_added_l71 F (nI n) F (m_X5_state f5 w) 0 = _ := m1
    rw [p1, Option.bind_some, p2, Option.bind_some, p3, Option.bind_some, p4, Option.bind_some, p5, Option.bind_some, m1']
  · have eb1 : b 1 = v 1 := by rw [m2, if_neg (by omega), e51]
    rw [eb1, ← hv]
    by_cases c1 : k = 1
    · rw [c1, upd_at, if_pos rfl]
    · rw [upd_ne _ _ c1, if_neg c1, m2 k]
      by_cases c2 : 257 + 4 * n ≤ k ∧ k < 257 + 4 * n + 4
      · rw [if_pos c2, if_pos c2]
      · rw [if_neg c2, if_neg c2, h5, h4, h3, h2, h1]
        show (if k = 17 + 10 * n + 6 then -1 else if k = 17 + 10 * n + 5 then -1 else if k = 17 + 10 * n + 4 then v 0 else if k = 17 + 10 * n + 1 then rank else if k = 17 + 10 * n then 1 else a k) = _
        rw [k2 k]
theorem x_bring {F : Nat} (hF : 100 < F) {B T n e h m : Nat} {u : S_X3} {w : S_X5} (q : WX G0 B T n e h m u (a_X5_state w)) (hn24 : n < 24) {r : Nat} (hr : r ≤ 9) :
    ∃ u' v', s_X3_bring F u (nI r) = some (nI n, u') ∧ s_X5_added F w (nI r) = some (nI n, m_X5_state v' w) ∧ WX G0 B T (n + 1) e h m u' v' ∧ ∀ k, 377 ≤ k → v' k = a_X5_state w k := by
  obtain ⟨he, hn, -⟩ := WB_e q.1
  obtain ⟨⟨⟨s1, s2, s3, s4, s5, s6, s7, s8, s9, s10, s11, s12, s13, s14⟩, hT, ⟨hP1, hP2, hP3⟩, ⟨hM1, hM2, hM3, hM4⟩, hE, ⟨hR1, hR2, hR3, hR4⟩, hb⟩, ⟨hH1, hH2, hH3, hH4⟩⟩ := q
  have qH : WH G0 n u (a_X5_state w) := ⟨hH1, hH2, hH3, hH4⟩
  obtain ⟨v', hrun, hv⟩ := md_added hF w hn24 s5 (nI r)
  obtain ⟨l', hl'⟩ : ∃ l', l' = a_X3_living u ||| (1 <<< (nI n &&& 31)) := ⟨_, rfl⟩
  have hlb : ∀ j, mb l' j = if j = n then true else mb (a_X3_living u) j := fun j => by rw [hl']; exact mb_set _ (by omega) j
  have lo : ∀ k, k ≠ 1 → ¬ (257 + 4 * n ≤ k ∧ k < 257 + 4 * n + 4) → ¬ (17 + 10 * n ≤ k ∧ k < 17 + 10 * n + 10) → v' k = a_X5_state w k := fun k c1 c2 c3 => by
    rw [hv, if_neg c1, if_neg c2, if_neg (by omega), if_neg (by omega), if_neg (by omega), if_neg (by omega), if_neg (by omega), if_neg c3]
  have hln : mb (a_X3_living u) n = false := by
    cases hb : mb (a_X3_living u) n with
    | false => rfl
    | true => have := hM1 n hb; omega
  have hsn : mb (a_X3_suspects u) n = false := by
    cases hb : mb (a_X3_suspects u) n with
    | false => rfl
    | true => have := hM2 n hb; rw [hln] at this; cases this
  have hwn : mb (a_X3_wronged u) n = false := by
    cases hb : mb (a_X3_wronged u) n with
    | false => rfl
    | true => have := (hM3 n hb).1; omega
  obtain ⟨u', hu'⟩ : ∃ u', u' = m_X3_things (a_X3_things u + 1) (m_X3_living l' (m_X3_endTimes (upd (a_X3_endTimes u) n (-1)) (m_X3_endNumbers (upd (a_X3_endNumbers u) n (-1)) (m_X3_came (upd (a_X3_came u) n (a_X3_time u)) (m_X3_ranks (upd (a_X3_ranks u) n (nI r)) u))))) := ⟨_, rfl⟩
  have hcl : s_X3_bring F u (nI r) = some (nI n, u') := by
    have c1 : ¬ a_X3_things u < 0 := by rw [s4]; exact ni_nneg (by omega)
    have c2 : a_X3_things u < 24 := by rw [s4]; exact (ni_lt (b := 24) (by omega) (by omega)).mpr hn24
    have c3 : lf_ix (a_X3_things u) 24 := by rw [s4]; exact ni_lx hn24 (by decide)
    have c4 : (a_X3_things u).toNatClampNeg = n := by rw [s4, ni_nat (by omega)]
    unfold s_X3_bring
    rw [if_neg c1, if_pos c2, if_pos c3, if_pos c3, if_pos c3, if_pos c3, c4]
    rw [hu', hl', ← s4]
  have t1 : a_X3_time u' = a_X3_time u := by rw [hu']
  have t2 : a_X3_things u' = a_X3_things u + 1 := by rw [hu']
  have t3 : a_X3_living u' = l' := by rw [hu']
  have t4 : a_X3_suspects u' = a_X3_suspects u := by rw [hu']
  have t5 : a_X3_wronged u' = a_X3_wronged u := by rw [hu']
  have t6 : a_X3_ends u' = a_X3_ends u := by rw [hu']
  have t7 : a_X3_slanderFound u' = a_X3_slanderFound u := by rw [hu']
  have t8 : a_X3_settings u' = a_X3_settings u := by rw [hu']
  have t9 : a_X3_ranks u' = upd (a_X3_ranks u) n (nI r) := by rw [hu']
  have t10 : a_X3_counts u' = a_X3_counts u := by rw [hu']
  have t11 : a_X3_came u' = upd (a_X3_came u) n (a_X3_time u) := by rw [hu']
  have t12 : a_X3_endNumbers u' = upd (a_X3_endNumbers u) n (-1) := by rw [hu']
  have t13 : a_X3_endTimes u' = upd (a_X3_endTimes u) n (-1) := by rw [hu']
  have t14 : a_X3_endKinds u' = a_X3_endKinds u := by rw [hu']
  have t15 : a_X3_endOrder u' = a_X3_endOrder u := by rw [hu']
  have t16 : a_X3_hold u' = a_X3_hold u := by rw [hu']
  have t17 : a_X3_rep u' = a_X3_rep u := by rw [hu']
  refine ⟨u', v', hcl, hrun, ⟨⟨⟨?_, ?_, s3, ?_, ?_, by omega, ?_, ?_, ?_, ?_, ?_, ?_, ?_, ?_⟩, ⟨?_, ?_, ?_, ?_⟩, ⟨fun t ht => ?_, ?_, ?_⟩, ⟨?_, ?_, ?_, ?_⟩, ?_, ⟨?_, ?_, ?_, ?_⟩, hb⟩, ⟨?_, ?_, ?_, ?_⟩⟩, fun k hk => lo k (by omega) (by omega) (by omega)⟩
  · rw [t1]; exact s1
  · rw [lo 0 (by omega) (by omega) (by omega)]; exact s2
  · rw [t2, s4, ni_1]
  · rw [hv, if_pos rfl, s5, ni_1]
  · rw [lo 2 (by omega) (by omega) (by omega)]; exact s7
  · rw [lo 3 (by omega) (by omega) (by omega)]; exact s8
  · rw [t6]; exact s9
  · rw [lo 4 (by omega) (by omega) (by omega)]; exact s10
  · rw [t3]
    show e = cn (fun t => !mb l' t) n + (if !mb l' n then 1 else 0)
    rw [hlb n, if_pos rfl, if_neg (by decide), Nat.add_zero, s11]
    exact cn_congr n fun k hk => by rw [hlb k, if_neg (by omega)]
  · rw [t14, lo 5 (by omega) (by omega) (by omega), s12]
    show _ = nI (cn (fun t => a_X3_endKinds u t == 2) n + (if (a_X3_endKinds u n == 2) then 1 else 0))
    rw [(hP3 n (Nat.le_refl _) hn24).2, if_neg (by decide), Nat.add_zero]
  · rw [t5, lo 6 (by omega) (by omega) (by omega)]; exact s13
  · rw [t7, lo 7 (by omega) (by omega) (by omega)]; exact s14
  · intro i hi; rw [t8, lo (8 + i) (by omega) (by omega) (by omega)]; exact hT.1 i hi
  · rw [t8]; exact hT.2.1
  · rw [t8]; exact hT.2.2.1
  · rw [t8]; exact hT.2.2.2
  · rw [t3, t4, t5, t9, t10, t11, t12, t13, t14]
    by_cases htn : t = n
    · rw [htn]
      have z0 : v' (17 + 10 * n) = 1 := by rw [hv, if_neg (by omega), if_neg (by omega), if_neg (by omega), if_neg (by omega), if_neg (by omega), if_neg (by omega), if_pos rfl]
      have z1 : v' (17 + 10 * n + 1) = nI r := by rw [hv, if_neg (by omega), if_neg (by omega), if_neg (by omega), if_neg (by omega), if_neg (by omega), if_pos rfl]
      have z4 : v' (17 + 10 * n + 4) = a_X5_state w 0 := by rw [hv, if_neg (by omega), if_neg (by omega), if_neg (by omega), if_neg (by omega), if_pos rfl]
      have z5 : v' (17 + 10 * n + 5) = -1 := by rw [hv, if_neg (by omega), if_neg (by omega), if_neg (by omega), if_pos rfl]
      have z6 : v' (17 + 10 * n + 6) = -1 := by rw [hv, if_neg (by omega), if_neg (by omega), if_pos rfl]
      have zo : ∀ p, p = 2 ∨ p = 3 ∨ p = 7 ∨ p = 8 → v' (17 + 10 * n + p) = 0 := fun p hp => by
        rw [hv, if_neg (by omega), if_neg (by omega), if_neg (by omega), if_neg (by omega), if_neg (by omega), if_neg (by omega), if_neg (by omega), if_pos (by omega)]
      rw [z0, z1, z4, z5, z6, zo 2 (by omega), zo 3 (by omega), zo 7 (by omega), zo 8 (by omega), upd_at, upd_at, upd_at, upd_at, (hP3 n (Nat.le_refl _) hn24).1, (hP3 n (Nat.le_refl _) hn24).2, bv_f hsn, bv_f hwn]
      refine ⟨(bv_t ?_).symm, ⟨rfl, r, hr, rfl⟩, rfl, rfl, by rw [s2, s1], rfl, rfl, rfl, rfl⟩
      rw [hlb n, if_pos rfl]
    · rw [lo _ (by omega) (by omega) (by omega), lo (17 + 10 * t + 1) (by omega) (by omega) (by omega), lo (17 + 10 * t + 2) (by omega) (by omega) (by omega), lo (17 + 10 * t + 3) (by omega) (by omega) (by omega), lo (17 + 10 * t + 4) (by omega) (by omega) (by omega), lo (17 + 10 * t + 5) (by omega) (by omega) (by omega), lo (17 + 10 * t + 6) (by omega) (by omega) (by omega), lo (17 + 10 * t + 7) (by omega) (by omega) (by omega), lo (17 + 10 * t + 8) (by omega) (by omega) (by omega), upd_ne _ _ htn, upd_ne _ _ htn, upd_ne _ _ htn, upd_ne _ _ htn]
      obtain ⟨p0, p1⟩ := hP1 t (by omega)
      refine ⟨p0.trans (bv_c ?_), p1⟩
      rw [hlb t, if_neg htn]
  · rw [t10]; exact hP2
  · intro t h1 h2; rw [t10, t14]; exact hP3 t (by omega) h2
  · intro t ht; rw [t3, hlb t] at ht
    by_cases htn : t = n
    · omega
    · rw [if_neg htn] at ht; have := hM1 t ht; omega
  · intro t ht; rw [t4] at ht; rw [t3, hlb t]
    by_cases htn : t = n
    · rw [if_pos htn]
    · rw [if_neg htn]; exact hM2 t ht
  · intro t ht; rw [t5] at ht; rw [t3, hlb t]
    have := hM3 t ht
    exact ⟨by omega, by rw [if_neg (by omega)]; exact this.2⟩
  · intro t ht; rw [t3, hlb t] at ht; rw [t14]
    by_cases htn : t = n
    · rw [htn]; exact (hP3 n (Nat.le_refl _) hn24).2
    · rw [if_neg htn] at ht; exact hM4 t ht
  · intro j hj; rw [t15, lo _ (by omega) (by omega) (by omega)]; exact hE j hj
  · rw [t17]; exact RR_congr hR1 fun j hj => (RV_v (m := m) (fun k h1 h2 => lo k (by omega) (by omega) (by omega)) hj).symm
  · intro j hj; rw [RV_v (m := m) (fun k h1 h2 => lo k (by omega) (by omega) (by omega)) hj]; exact hR2 j hj
  · intro j hj; rw [RV_v (m := m) (fun k h1 h2 => lo k (by omega) (by omega) (by omega)) hj]; exact hR3 j hj
  · intro j hj; rw [RV_v (m := m) (fun k h1 h2 => lo k (by omega) (by omega) (by omega)) hj]
    obtain ⟨t, z1, z2⟩ := hR4 j hj
    exact ⟨t, by omega, z2⟩
  · intro k hk; rw [t16, lo _ (by omega) (by omega) (by omega)]; exact hH1 k hk
  · intro o ho k hk
    rw [t16]
    refine Or.inl ?_
    by_cases hon : o = n
    · rw [hon, hv, if_neg (by omega), if_pos (by omega)]
      exact (hH4 n (by omega) hln k hk).symm
    · rw [lo _ (by omega) (by omega) (by omega)]
      exact WH0 qH (by omega) hk
  · intro k hk
    rw [t16, t3]
    rcases hH3 k hk with z | ⟨t, z1, z2, z3⟩
    · exact Or.inl z
    · exact Or.inr ⟨t, by omega, z2, by rw [hlb t, if_neg (by omega)]; exact z3⟩
  · intro o ho hl k hk
    rw [t16]
    rw [t3, hlb o] at hl
    by_cases hon : o = n
    · rw [if_pos hon] at hl; cases hl
    · rw [if_neg hon] at hl; exact hH4 o ho hl k hk
