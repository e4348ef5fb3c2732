/-! the scalars of an end -/
theorem md_start {F : Nat} (w : S_X5) {t e : Nat} (ht : t < 24) (he : e < 24) (h4 : a_X5_state w 4 = nI e) {how : Int32} (hh : how = 1 ∨ how = 2) :
    ∃ v', s_X5_ends F w (nI t) how = s_X5_ends_l94 F (nI t) how F (m_X5_state v' w) 0 ∧ ∀ k, v' k = if k = 5 then a_X5_state w 5 + (if how = 2 then 1 else 0) else if k = 4 then a_X5_state w 4 + 1 else if k = 353 + e then nI t else if k = 17 + 10 * t + 6 then a_X5_state w 0 else if k = 17 + 10 * t + 5 then a_X5_state w 4 else if k = 17 + 10 * t + 7 then how else if k = 17 + 10 * t + 3 then 0 else if k = 17 + 10 * t then 0 else a_X5_state w k := by
  obtain ⟨v, hv⟩ : ∃ v, v = a_X5_state w := ⟨_, rfl⟩
  obtain ⟨f1, h1⟩ : ∃ f, f = upd v (17 + 10 * t) 0 := ⟨_, rfl⟩
  obtain ⟨f2, h2⟩ : ∃ f, f = upd f1 (17 + 10 * t + 3) 0 := ⟨_, rfl⟩
  obtain ⟨f3, h3⟩ : ∃ f, f = upd f2 (17 + 10 * t + 7) how := ⟨_, rfl⟩
  have e3 : f3 4 = v 4 := by rw [h3, upd_ne _ _ (by omega), h2, upd_ne _ _ (by omega), h1, upd_ne _ _ (by omega)]
  have e30 : f3 0 = v 0 := by rw [h3, upd_ne _ _ (by omega), h2, upd_ne _ _ (by omega), h1, upd_ne _ _ (by omega)]
  have e35 : f3 5 = v 5 := by rw [h3, upd_ne _ _ (by omega), h2, upd_ne _ _ (by omega), h1, upd_ne _ _ (by omega)]
  obtain ⟨f4, hf4⟩ : ∃ f, f = upd f3 (17 + 10 * t + 5) (v 4) := ⟨_, rfl⟩
  have e40 : f4 0 = v 0 := by rw [hf4, upd_ne _ _ (by omega), e30]
  obtain ⟨f5, hf5⟩ : ∃ f, f = upd f4 (17 + 10 * t + 6) (v 0) := ⟨_, rfl⟩
  have e54 : f5 4 = v 4 := by rw [hf5, upd_ne _ _ (by omega), hf4, upd_ne _ _ (by omega), e3]
  have e55 : f5 5 = v 5 := by rw [hf5, upd_ne _ _ (by omega), hf4, upd_ne _ _ (by omega), e35]
  obtain ⟨f6, hf6⟩ : ∃ f, f = upd f5 (353 + e) (nI t) := ⟨_, rfl⟩
  have e64 : f6 4 = v 4 := by rw [hf6, upd_ne _ _ (by omega), e54]
  have e65 : f6 5 = v 5 := by rw [hf6, upd_ne _ _ (by omega), e55]
  obtain ⟨f7, hf7⟩ : ∃ f, f = upd f6 4 (v 4 + 1) := ⟨_, rfl⟩
  have e75 : f7 5 = v 5 := by rw [hf7, upd_ne _ _ (by omega), e65]
  have p1 : s_X5_setPart F w (nI t) 0 0 = some (m_X5_state f1 w) := by
    have h := x5_setPart F w (t := t) (p := 0) (by omega) 0
    rw [h1, hv]; exact h
  have p2 : s_X5_setPart F (m_X5_state f1 w) (nI t) 3 0 = some (m_X5_state f2 w) := by
    have h := x5_setPart F (m_X5_state f1 w) (t := t) (p := 3) (by omega) 0
    rw [h2]; exact h
  have p3 : s_X5_setPart F (m_X5_state f2 w) (nI t) 7 how = some (m_X5_state f3 w) := by
    have h := x5_setPart F (m_X5_state f2 w) (t := t) (p := 7) (by omega) how
    rw [h3]; exact h
  have p4 : s_X5_setPart F (m_X5_state f3 w) (nI t) 5 (a_X5_state (m_X5_state f3 w) (4 : Int32).toNatClampNeg) = some (m_X5_state f4 w) := by
    have h := x5_setPart F (m_X5_state f3 w) (t := t) (p := 5) (by omega) (f3 4)
    rw [hf4, ← e3]; exact h
  have p5 : s_X5_setPart F (m_X5_state f4 w) (nI t) 6 (a_X5_state (m_X5_state f4 w) (0 : Int32).toNatClampNeg) = some (m_X5_state f5 w) := by
    have h := x5_setPart F (m_X5_state f4 w) (t := t) (p := 6) (by omega) (f4 0)
    rw [hf5, ← e40]; exact h
  have i4 : a_X5_state (m_X5_state f5 w) (4 : Int32).toNatClampNeg = nI e := by
    show f5 4 = _
    rw [e54, hv, h4]
  have ix : 353 + a_X5_state (m_X5_state f5 w) (4 : Int32).toNatClampNeg = nI (353 + e) := by
    rw [i4, show (353 : Int32) = nI 353 from rfl, ni_add]
  have p6 : m_X5_state (upd (a_X5_state (m_X5_state f5 w)) (353 + e) (nI t)) (m_X5_state f5 w) = m_X5_state f6 w := by rw [hf6]
  have p7 : m_X5_state (upd (a_X5_state (m_X5_state f6 w)) (4 : Int32).toNatClampNeg (a_X5_state (m_X5_state f6 w) (4 : Int32).toNatClampNeg + 1)) (m_X5_state f6 w) = m_X5_state f7 w := by
    rw [hf7, ← e64]; rfl
  have hres : ∀ c : Int32, m_X5_state (upd (a_X5_state (m_X5_state f7 w)) (5 : Int32).toNatClampNeg (a_X5_state (m_X5_state f7 w) (5 : Int32).toNatClampNeg + c)) (m_X5_state f7 w) = m_X5_state (upd f7 5 (v 5 + c)) w := by
    intro c
    rw [← e75]; rfl
  have hrun : s_X5_ends F w (nI t) how = s_X5_ends_l94 F (nI t) how F (m_X5_state (upd f7 5 (v 5 + (if how = 2 then 1 else 0))) w) 0 := by
    unfold s_X5_ends
    rw [p1, Option.bind_some, p2, Option.bind_some, p3, Option.bind_some, p4, Option.bind_some, p5, Option.bind_some, ix, if_pos (ni_lx (show 353 + e < 20377 by omega) (by decide)), ni_nat (by omega)]
    rw [p6]
    simp only [lf_let]
    rw [p7]
    by_cases h : how = 2
    · rw [if_pos h, if_pos h, hres]
    · rw [if_neg h, if_neg h, hres]
  refine ⟨_, hrun, fun k => ?_⟩
  rw [hf7, hf6, hf5, hf4, h3, h2, h1, ← hv]
  rfl
theorem WB_end {B T n e h m : Nat} {u : S_X3} {v v' : Nat → Int32} (q : WB B T n e h m u v) {t : Nat} (ht : t < n) (hl : mb (a_X3_living u) t = true) {how : Int32} (hh : how = 1 ∨ how = 2) {l' s' : Int32} (hl' : ∀ j, mb l' j = (mb (a_X3_living u) j && !decide (j = t))) (hs' : ∀ j, mb s' j = (mb (a_X3_suspects u) j && !decide (j = t)))
    (hv : ∀ k, v' k = if k = 5 then v 5 + (if how = 2 then 1 else 0) else if k = 4 then v 4 + 1 else if k = 353 + e then nI t else if k = 17 + 10 * t + 6 then v 0 else if k = 17 + 10 * t + 5 then v 4 else if k = 17 + 10 * t + 7 then how else if k = 17 + 10 * t + 3 then 0 else if k = 17 + 10 * t then 0 else v k) :
    WB B T n (e + 1) h m (m_X3_ends (a_X3_ends u + 1) (m_X3_endOrder (upd (a_X3_endOrder u) e (nI t)) (m_X3_endKinds (upd (a_X3_endKinds u) t how) (m_X3_endTimes (upd (a_X3_endTimes u) t (a_X3_time u)) (m_X3_endNumbers (upd (a_X3_endNumbers u) t (a_X3_ends u)) (m_X3_suspects s' (m_X3_living l' u))))))) v' := by
  obtain ⟨he, hn, -⟩ := WB_e q
  obtain ⟨⟨s1, s2, s3, s4, s5, s6, s7, s8, s9, s10, s11, s12, s13, s14⟩, hT, ⟨hP1, hP2, hP3⟩, ⟨hM1, hM2, hM3, hM4⟩, hE, hR, hb1, hb2⟩ := q
  have lo : ∀ k, k ≠ 5 → k ≠ 4 → k ≠ 353 + e → k ≠ 17 + 10 * t + 6 → k ≠ 17 + 10 * t + 5 → k ≠ 17 + 10 * t + 7 → k ≠ 17 + 10 * t + 3 → k ≠ 17 + 10 * t → v' k = v k := by
    intro k a1 a2 a3 a4 a5 a6 a7 a8
    rw [hv, if_neg a1, if_neg a2, if_neg a3, if_neg a4, if_neg a5, if_neg a6, if_neg a7, if_neg a8]
  have hcount : cn (fun x => !mb l' x) n = cn (fun x => !mb (a_X3_living u) x) n + 1 := by
    refine cn_one n ht ?_ ?_ ?_
    · rw [hl]; rfl
    · rw [hl' t]; simp
    · intro k hk hkt
      rw [hl' k, decide_eq_false hkt]; simp
  have he24 : e < 24 := by
    have := cn_le (fun x => !mb l' x) n
    omega
  have hkind : (if how = 2 then nI (cn (fun x => a_X3_endKinds u x == 2) n) + 1 else nI (cn (fun x => a_X3_endKinds u x == 2) n)) = nI (cn (fun x => upd (a_X3_endKinds u) t how x == 2) n) := by
    have hk0 := hM4 t hl
    rcases hh with h1 | h1
    · rw [if_neg (by rw [h1]; decide)]
      refine congrArg nI (cn_congr n fun k hk => ?_)
      by_cases hkt : k = t
      · subst hkt; rw [upd_at, hk0, h1]; rfl
      · rw [upd_ne _ _ hkt]
    · rw [if_pos h1, ni_1]
      refine congrArg nI (cn_one n ht ?_ ?_ ?_).symm
      · rw [hk0]; rfl
      · rw [upd_at, h1]; rfl
      · intro k hk hkt
        rw [upd_ne _ _ hkt]
  refine ⟨⟨s1, (lo 0 (by omega) (by omega) (by omega) (by omega) (by omega) (by omega) (by omega) (by omega)).trans s2, s3, s4, (lo 1 (by omega) (by omega) (by omega) (by omega) (by omega) (by omega) (by omega) (by omega)).trans s5, s6, (lo 2 (by omega) (by omega) (by omega) (by omega) (by omega) (by omega) (by omega) (by omega)).trans s7, (lo 3 (by omega) (by omega) (by omega) (by omega) (by omega) (by omega) (by omega) (by omega)).trans s8, ?_, ?_, ?_, ?_, (lo 6 (by omega) (by omega) (by omega) (by omega) (by omega) (by omega) (by omega) (by omega)).trans s13, (lo 7 (by omega) (by omega) (by omega) (by omega) (by omega) (by omega) (by omega) (by omega)).trans s14⟩,
    (WT_v hT fun k h1 h2 => lo k (by omega) (by omega) (by omega) (by omega) (by omega) (by omega) (by omega) (by omega) : WT u v'), ⟨fun s hs => ?_, hP2, fun s h1 h2 => ?_⟩, ⟨fun s hs => ?_, fun s hs => ?_, fun s hs => ?_, fun s hs => ?_⟩, fun j hj => ?_, (WR_v hR fun k h1 h2 => lo k (by omega) (by omega) (by omega) (by omega) (by omega) (by omega) (by omega) (by omega) : WR n h m u v'), by omega, hb2⟩
  · show a_X3_ends u + 1 = _
    rw [s9, ni_1]
  · rw [hv, if_neg (by omega), if_pos rfl, s10, ni_1]
  · show e + 1 = cn (fun x => !mb l' x) n
    omega
  · show v' 5 = nI (cn (fun x => upd (a_X3_endKinds u) t how x == 2) n)
    rw [hv, if_pos rfl, ← hkind, s12]
    by_cases h : how = 2
    · rw [if_pos h, if_pos h]
    · rw [if_neg h, if_neg h, Int32.add_zero]
  · obtain ⟨p0, p1, p2, p3, p4, p5, p6, p7, p8⟩ := hP1 s hs
    by_cases hst : s = t
    · subst hst
      have q0 : v' (17 + 10 * s) = 0 := by
        rw [hv, if_neg (by omega), if_neg (by omega), if_neg (by omega), if_neg (by omega), if_neg (by omega), if_neg (by omega), if_neg (by omega), if_pos rfl]
      have q3 : v' (17 + 10 * s + 3) = 0 := by
        rw [hv, if_neg (by omega), if_neg (by omega), if_neg (by omega), if_neg (by omega), if_neg (by omega), if_neg (by omega), if_pos rfl]
      have q7 : v' (17 + 10 * s + 7) = how := by
        rw [hv, if_neg (by omega), if_neg (by omega), if_neg (by omega), if_neg (by omega), if_neg (by omega), if_pos rfl]
      have q5 : v' (17 + 10 * s + 5) = v 4 := by
        rw [hv, if_neg (by omega), if_neg (by omega), if_neg (by omega), if_neg (by omega), if_pos rfl]
      have q6 : v' (17 + 10 * s + 6) = v 0 := by
        rw [hv, if_neg (by omega), if_neg (by omega), if_neg (by omega), if_pos rfl]
      rw [q0, q3, q5, q6, q7, lo (17 + 10 * s + 1) (by omega) (by omega) (by omega) (by omega) (by omega) (by omega) (by omega) (by omega), lo (17 + 10 * s + 2) (by omega) (by omega) (by omega) (by omega) (by omega) (by omega) (by omega) (by omega), lo (17 + 10 * s + 4) (by omega) (by omega) (by omega) (by omega) (by omega) (by omega) (by omega) (by omega), lo (17 + 10 * s + 8) (by omega) (by omega) (by omega) (by omega) (by omega) (by omega) (by omega) (by omega)]
      refine ⟨(bv_f ?_).symm, p1, p2, (bv_f ?_).symm, p4, ?_, ?_, ?_, p8⟩
      · show mb l' s = false
        rw [hl' s]; simp
      · show mb s' s = false
        rw [hs' s]; simp
      · show _ = upd (a_X3_endNumbers u) s (a_X3_ends u) s
        rw [upd_at, s10, s9]
      · show _ = upd (a_X3_endTimes u) s (a_X3_time u) s
        rw [upd_at, s2, s1]
      · show _ = upd (a_X3_endKinds u) s how s
        rw [upd_at]
    · rw [lo (17 + 10 * s) (by omega) (by omega) (by omega) (by omega) (by omega) (by omega) (by omega) (by omega), lo (17 + 10 * s + 1) (by omega) (by omega) (by omega) (by omega) (by omega) (by omega) (by omega) (by omega), lo (17 + 10 * s + 2) (by omega) (by omega) (by omega) (by omega) (by omega) (by omega) (by omega) (by omega), lo (17 + 10 * s + 3) (by omega) (by omega) (by omega) (by omega) (by omega) (by omega) (by omega) (by omega), lo (17 + 10 * s + 4) (by omega) (by omega) (by omega) (by omega) (by omega) (by omega) (by omega) (by omega), lo (17 + 10 * s + 5) (by omega) (by omega) (by omega) (by omega) (by omega) (by omega) (by omega) (by omega), lo (17 + 10 * s + 6) (by omega) (by omega) (by omega) (by omega) (by omega) (by omega) (by omega) (by omega), lo (17 + 10 * s + 7) (by omega) (by omega) (by omega) (by omega) (by omega) (by omega) (by omega) (by omega), lo (17 + 10 * s + 8) (by omega) (by omega) (by omega) (by omega) (by omega) (by omega) (by omega) (by omega)]
      refine ⟨p0.trans (bv_c ?_), p1, p2, p3.trans (bv_c ?_), p4, ?_, ?_, ?_, p8⟩
      · show _ = mb l' s
        rw [hl' s, decide_eq_false hst]; simp
      · show _ = mb s' s
        rw [hs' s, decide_eq_false hst]; simp
      · show _ = upd (a_X3_endNumbers u) t (a_X3_ends u) s
        rw [upd_ne _ _ hst]; exact p5
      · show _ = upd (a_X3_endTimes u) t (a_X3_time u) s
        rw [upd_ne _ _ hst]; exact p6
      · show _ = upd (a_X3_endKinds u) t how s
        rw [upd_ne _ _ hst]; exact p7
  · show a_X3_counts u s = 0 ∧ upd (a_X3_endKinds u) t how s = 0
    rw [upd_ne _ _ (by omega)]
    exact hP3 s h1 h2
  · have hs2 : mb l' s = true := hs
    rw [hl' s, Bool.and_eq_true] at hs2
    exact hM1 s hs2.1
  · have hs2 : mb s' s = true := hs
    show mb l' s = true
    rw [hs' s, Bool.and_eq_true] at hs2
    rw [hl' s, hM2 s hs2.1, hs2.2]; rfl
  · have := hM3 s hs
    refine ⟨this.1, ?_⟩
    show mb l' s = false
    rw [hl' s, this.2]; rfl
  · have hs2 : mb l' s = true := hs
    rw [hl' s, Bool.and_eq_true] at hs2
    show upd (a_X3_endKinds u) t how s = 0
    rw [upd_ne _ _ (by simpa using hs2.2)]
    exact hM4 s hs2.1
  · show _ = upd (a_X3_endOrder u) e (nI t) j
    by_cases hje : j = e
    · subst hje
      rw [upd_at, hv, if_neg (by omega), if_neg (by omega), if_pos rfl]
    · rw [upd_ne _ _ hje, lo _ (by omega) (by omega) (by omega) (by omega) (by omega) (by omega) (by omega) (by omega)]
      exact hE j (by omega)
theorem WB_wrong {B T n e h m : Nat} {u : S_X3} {v : Nat → Int32} (q : WB B T n e h m u v) {t : Nat} (ht : t < n) (hl : mb (a_X3_living u) t = false) (hw : mb (a_X3_wronged u) t = false) (b : Bool) {s' : Int32} (hs' : ∀ j, mb s' j = if j = t then b else mb (a_X3_wronged u) j) : WB B T n e h m (m_X3_wronged s' u) (upd (upd v (17 + 10 * t + 8) (ev_b b)) 6 (v 6 + ev_b b)) := by
  obtain ⟨he, hn, -⟩ := WB_e q
  obtain ⟨⟨s1, s2, s3, s4, s5, s6, s7, s8, s9, s10, s11, s12, s13, s14⟩, hT, hP, hM, hE, hR, hb⟩ := q
  have lo : ∀ k, k ≠ 6 → k ≠ 17 + 10 * t + 8 → upd (upd v (17 + 10 * t + 8) (ev_b b)) 6 (v 6 + ev_b b) k = v k := fun k h1 h2 => by rw [upd_ne _ _ h1, upd_ne _ _ h2]
  refine ⟨⟨s1, (lo 0 (by omega) (by omega)).trans s2, s3, s4, (lo 1 (by omega) (by omega)).trans s5, s6, (lo 2 (by omega) (by omega)).trans s7, (lo 3 (by omega) (by omega)).trans s8, s9, (lo 4 (by omega) (by omega)).trans s10, s11, (lo 5 (by omega) (by omega)).trans s12, ?_, (lo 7 (by omega) (by omega)).trans s14⟩, (WT_v hT fun k h1 h2 => lo k (by omega) (by omega) : WT u _), ⟨fun s hs => ?_, hP.2⟩, ⟨hM.1, hM.2.1, fun s hs => ?_, hM.2.2.2⟩, (WE_v (by omega) hE fun k h1 h2 => lo k (by omega) (by omega) : WE e u _), (WR_v hR fun k h1 h2 => lo k (by omega) (by omega) : WR n h m u _), hb⟩
  · show _ = nI (cn (mb s') 24)
    rw [upd_at, s13]
    cases b with
    | false =>
      rw [ev_bf, Int32.add_zero]
      refine congrArg nI (cn_congr 24 fun k hk => ?_)
      rw [hs' k]
      by_cases hkt : k = t
      · subst hkt; rw [if_pos rfl]; exact hw
      · rw [if_neg hkt]
    | true =>
      rw [ev_bt, ni_1]
      refine congrArg nI (cn_one 24 (show t < 24 by omega) hw ?_ ?_).symm
      · rw [hs' t, if_pos rfl]
      · intro k hk hkt
        rw [hs' k, if_neg hkt]
  · obtain ⟨p0, p1, p2, p3, p4, p5, p6, p7, p8⟩ := hP.1 s hs
    rw [lo _ (by omega) (by omega), lo _ (by omega) (by omega), lo (17 + 10 * s + 2) (by omega) (by omega), lo (17 + 10 * s + 3) (by omega) (by omega), lo (17 + 10 * s + 4) (by omega) (by omega), lo (17 + 10 * s + 5) (by omega) (by omega), lo (17 + 10 * s + 6) (by omega) (by omega), lo (17 + 10 * s + 7) (by omega) (by omega)]
    refine ⟨p0, p1, p2, p3, p4, p5, p6, p7, ?_⟩
    show _ = bv s' s
    unfold bv
    rw [hs' s]
    by_cases hst : s = t
    · subst hst
      rw [upd_ne _ _ (by omega), upd_at, if_pos rfl]
      cases b <;> rfl
    · rw [if_neg hst, lo _ (by omega) (by omega), p8]; rfl
  · have hs2 : mb s' s = true := hs
    rw [hs' s] at hs2
    by_cases hst : s = t
    · subst hst; exact ⟨ht, hl⟩
    · rw [if_neg hst] at hs2; exact hM.2.2.1 s hs2
