/-! a step done, a program run, on both sides -/
def KD (t : S_X2) (w : S_X5) : Prop := a_X2_letter t = a_X5_kind w ∧
  ((a_X5_kind w = 110 ∧ ∃ d, d ≤ 9 ∧ a_X2_numbers t 0 = nI d ∧ a_X5_first w = nI d) ∨
   (a_X5_kind w = 104 ∧ ∃ d, d < 4 ∧ a_X2_numbers t 0 = nI d ∧ a_X5_first w = nI d ∧ a_X2_numbers t 1 = a_X5_held w) ∨
   (a_X5_kind w = 115 ∧ ∃ d s, d < 24 ∧ s < 4 ∧ a_X2_numbers t 0 = nI d ∧ a_X5_first w = nI d ∧ a_X2_numbers t 1 = nI s ∧ a_X5_second w = nI s ∧ a_X2_numbers t 2 = a_X5_held w) ∨
   (a_X5_kind w = 116 ∧ ∃ d, 1 ≤ d ∧ d ≤ 99 ∧ a_X2_numbers t 0 = nI d ∧ a_X5_first w = nI d) ∨ a_X5_kind w = 106)
set_option maxHeartbeats 1000000 in
theorem x_do {F : Nat} (hF : 6400 < F) {B T n e h m : Nat} {u : S_X4} {w : S_X5} (q : WX G0 B T n e h m (a_X4_now u) (a_X5_state w)) (nd : ND T m (a_X5_state w)) (hT : T ≤ 5000) (hB : B + 2 + 96 ≤ 1200) (hk : KD (a_X4_text u) w) :
    ∃ b u' w' T' n' e' h' m', s_X4_doStep F u = some (b, u') ∧ s_X5_does F w = some (b, w') ∧ WX G0 (B + 2) T' n' e' h' m' (a_X4_now u') (a_X5_state w') ∧ ND T' m' (a_X5_state w') ∧ T' ≤ 5000 ∧ a_X4_savedStates u' = a_X4_savedStates u ∧ a_X4_text u' = a_X4_text u ∧ SF1 w w' := by
  obtain ⟨he, hn, hhm⟩ := WB_e q.1
  have stay : ∃ T' n' e' h' m', WX G0 (B + 2) T' n' e' h' m' (a_X4_now u) (a_X5_state w) ∧ ND T' m' (a_X5_state w) ∧ T' ≤ 5000 := ⟨T, n, e, h, m, WX_mono q (by omega) hB, nd, hT⟩
  have i0 : (0 : Int32).toNatClampNeg = 0 := rfl
  have i1 : (1 : Int32).toNatClampNeg = 1 := rfl
  have i2 : (2 : Int32).toNatClampNeg = 2 := rfl
  obtain ⟨hl, hk⟩ := hk
  rcases hk with ⟨k1, d, d1, d2, d3⟩ | ⟨k1, d, d1, d2, d3, d4⟩ | ⟨k1, d, s, d1, s1, d2, d3, s2, s3, d4⟩ | ⟨k1, d, d1, d1', d2, d3⟩ | k1
  · rw [k1] at hl
    have hcl : s_X4_doStep F u = if 24 ≤ (a_X3_things (a_X4_now u)) then (some (false, u)) else ((s_X3_bring F (a_X4_now u) (nI d)).bind fun y4 => (if y4.1 = (-1) then (some (false, m_X4_now y4.2 u)) else (some (true, m_X4_now y4.2 u)))) := by
      unfold s_X4_doStep
      rw [if_neg (by rw [hl]; decide), if_pos hl, i0, d2]
    have hw : s_X5_whyNotAdded F w (nI d) = some (if n = 24 then 2 else 0) := by
      unfold s_X5_whyNotAdded
      rw [m_within, decide_eq_true (show (0 : Int32) ≤ nI d ∧ nI d ≤ 9 from ⟨(ni_le (a := 0) (by omega) (by omega)).mpr (by omega), (ni_le (b := 9) (by omega) (by omega)).mpr (by omega)⟩), Option.bind_some, if_pos rfl, show a_X5_state w (1 : Int32).toNatClampNeg = nI n from q.1.1.2.2.2.2.1]
      by_cases h24 : n = 24
      · rw [if_pos h24, if_pos (by rw [h24]; rfl)]
      · rw [if_neg h24, if_neg (show ¬ nI n = 24 from fun z => h24 ((ni_eq (b := 24) (by omega) (by omega)).mp z))]
    have hmd : s_X5_does F w = (if (if n = 24 then (2 : Int32) else 0) = 0 then s_X5_does_b27 F w 1 else s_X5_does_b27 F w 0) := by
      unfold s_X5_does
      rw [if_pos k1, d3, hw, Option.bind_some]
    by_cases h24 : n = 24
    · obtain ⟨T', n', e', h', m', t1, t2, t3⟩ := stay
      refine ⟨false, u, w, T', n', e', h', m', ?_, ?_, t1, t2, t3, rfl, rfl, SF1.of (SF.rf w)⟩
      · rw [hcl, q.1.1.2.2.2.1, h24, if_pos (by decide)]
      · rw [hmd, if_pos h24, if_neg (by decide)]
        unfold s_X5_does_b27
        rw [if_pos rfl, if_pos rfl]
    · obtain ⟨x, v', r1, r2, r3, r4⟩ := x_bring (F := F) (by omega) q (by omega) (r := d) d1
      refine ⟨true, m_X4_now x u, m_X5_state v' w, T, n + 1, e, h, m, ?_, ?_, WX_mono r3 (by omega) hB, ND_v nd fun k h1 _ => r4 k h1, hT, rfl, rfl, SF1.of (SF.st w v')⟩
      · rw [hcl, if_neg (by rw [q.1.1.2.2.2.1]; exact il_nle (show n < 24 by omega) (by decide)), r1, Option.bind_some, if_neg (nI_ne (by omega))]
      · rw [hmd, if_neg h24, if_pos rfl]
        unfold s_X5_does_b27
        rw [if_neg (by decide), d3, r2, Option.bind_some, if_neg (by decide), if_pos rfl]
  · rw [k1] at hl
    have hcl : s_X4_doStep F u = (if tH (a_X4_now u) (a_X5_held w) then ((s_X3_change F (a_X4_now u) (nI d) (a_X5_held w)).bind fun y3 => (some (true, m_X4_now y3.2 u))) else (some (false, u))) := by
      unfold s_X4_doStep
      rw [if_pos hl, i0, i1, d2, d4, c_isHand, Option.bind_some, tT_in (by omega) d1, if_pos rfl, c_mayBeHeld, Option.bind_some]
    have hmd : s_X5_does F w = (if (if tT 4 (nI d) && ((a_X5_held w == -1) || tT n (a_X5_held w)) then (if tH (a_X4_now u) (a_X5_held w) then (0 : Int32) else 2) else 1) = 0 then s_X5_does_b73 F w 1 else s_X5_does_b73 F w 0) := by
      unfold s_X5_does
      rw [if_neg (by rw [k1]; decide), if_pos k1, d3, m_taken F q.1, Option.bind_some]
    cases hth : tH (a_X4_now u) (a_X5_held w) with
    | false =>
      obtain ⟨T', n', e', h', m', t1, t2, t3⟩ := stay
      refine ⟨false, u, w, T', n', e', h', m', ?_, ?_, t1, t2, t3, rfl, rfl, SF1.of (SF.rf w)⟩
      · rw [hcl, hth, if_neg Bool.false_ne_true]
      · rw [hmd, hth, if_neg Bool.false_ne_true, if_neg (by split <;> decide)]
        unfold s_X5_does_b73
        rw [if_pos rfl, if_pos rfl]
    | true =>
      have hy := tH_iff.mp hth
      have hheld : ((a_X5_held w == -1) || tT n (a_X5_held w)) = true := by
        rcases hy with z | ⟨k, z1, z2, z3⟩
        · rw [z]; rfl
        · rw [z2, tT_in (by omega) (q.1.2.2.2.1.1 k z3), Bool.or_true]
      obtain ⟨e', h', m', x, v', z, r1, r2, r3, r4, -⟩ := x_change (F := F) (by omega) q hB (k := d) (by omega) (fun h4 => by omega) (y := a_X5_held w) (by
        rcases hy with z | ⟨k, z1, z2, z3⟩
        · exact Or.inl z
        · exact Or.inr ⟨k, z2, z3⟩)
      refine ⟨true, m_X4_now x u, m_X5_state v' w, T, n, e', h', m', ?_, ?_, r3, r4, hT, rfl, rfl, SF1.of (SF.st w v')⟩
      · rw [hcl, hth, if_pos rfl, r1, Option.bind_some]
      · rw [hmd, hth, if_pos rfl, tT_in (by omega) d1, hheld, Bool.true_and, if_pos rfl, if_pos rfl]
        unfold s_X5_does_b73
        have hmp : mp d = 13 + d := by unfold mp; rw [if_pos (by omega)]
        rw [if_neg (by decide), d3, ni_13, ← hmp, r2, Option.bind_some, if_neg (by decide), if_pos rfl]
  · rw [k1] at hl
    have hcl : s_X4_doStep F u = (if tL (a_X4_now u) (nI d) then (if tH (a_X4_now u) (a_X5_held w) then ((s_X3_change F (a_X4_now u) (nI (4 + 4 * d + s)) (a_X5_held w)).bind fun y8 => (some (true, m_X4_now y8.2 u))) else (some (false, u))) else (some (false, u))) := by
      unfold s_X4_doStep
      rw [if_neg (by rw [hl]; decide), if_neg (by rw [hl]; decide), if_pos hl, i0, i1, i2, d2, s2, d4, c_lives, Option.bind_some, c_isSlot, Option.bind_some, tT_in (by omega) s1, if_pos rfl, c_mayBeHeld, Option.bind_some, ni_plk]
    have hmd : s_X5_does F w = (if (if tT n (nI d) && tT 4 (nI s) && ((a_X5_held w == -1) || tT n (a_X5_held w)) then (if tL (a_X4_now u) (nI d) && tH (a_X4_now u) (a_X5_held w) then (0 : Int32) else 2) else 1) = 0 then s_X5_does_b130 F w 1 else s_X5_does_b130 F w 0) := by
      unfold s_X5_does
      rw [if_neg (by rw [k1]; decide), if_neg (by rw [k1]; decide), if_pos k1, d3, s3, m_put F q.1, Option.bind_some]
    cases hb : (tL (a_X4_now u) (nI d) && tH (a_X4_now u) (a_X5_held w)) with
    | false =>
      obtain ⟨T', n', e', h', m', t1, t2, t3⟩ := stay
      refine ⟨false, u, w, T', n', e', h', m', ?_, ?_, t1, t2, t3, rfl, rfl, SF1.of (SF.rf w)⟩
      · rw [hcl]
        cases hx : tL (a_X4_now u) (nI d) with
        | false => rw [if_neg Bool.false_ne_true]
        | true =>
          rw [hx, Bool.true_and] at hb
          rw [if_pos rfl, hb, if_neg Bool.false_ne_true]
      · rw [hmd, hb, if_neg Bool.false_ne_true, if_neg (by split <;> decide)]
        unfold s_X5_does_b130
        rw [if_pos rfl, if_pos rfl]
    | true =>
      have hb2 := (Bool.and_eq_true _ _).mp hb
      have hy := tH_iff.mp hb2.2
      have hld : mb (a_X3_living (a_X4_now u)) d = true := by
        obtain ⟨k, z1, z2, z3⟩ := tL_iff.mp hb2.1
        rw [(ni_eq (by omega) (by omega)).mp z2]; exact z3
      have hheld : ((a_X5_held w == -1) || tT n (a_X5_held w)) = true := by
        rcases hy with z | ⟨k, z1, z2, z3⟩
        · rw [z]; rfl
        · rw [z2, tT_in (by omega) (q.1.2.2.2.1.1 k z3), Bool.or_true]
      obtain ⟨e', h', m', x, v', z, r1, r2, r3, r4, -⟩ := x_change (F := F) (by omega) q hB (k := 4 + 4 * d + s) (by omega) (fun h4 => by rw [show (4 + 4 * d + s - 4) / 4 = d by omega]; exact hld) (y := a_X5_held w) (by
        rcases hy with z | ⟨k, z1, z2, z3⟩
        · exact Or.inl z
        · exact Or.inr ⟨k, z2, z3⟩)
      refine ⟨true, m_X4_now x u, m_X5_state v' w, T, n, e', h', m', ?_, ?_, r3, r4, hT, rfl, rfl, SF1.of (SF.st w v')⟩
      · rw [hcl, hb2.1, hb2.2, if_pos rfl, if_pos rfl, r1, Option.bind_some]
      · rw [hmd, hb, if_pos rfl, tL_T q.1 hb2.1, tT_in (by omega) s1, hheld, Bool.true_and, Bool.true_and, if_pos rfl, if_pos rfl]
        unfold s_X5_does_b130
        have hmp : mp (4 + 4 * d + s) = 257 + 4 * d + s := by unfold mp; rw [if_neg (by omega)]; omega
        rw [if_neg (by decide), d3, s3, ix_slot, ← hmp, r2, Option.bind_some, if_neg (by decide), if_pos rfl]
  · rw [k1] at hl
    have htm : a_X3_time (a_X4_now u) = nI T := q.1.1.1
    have hcl : s_X4_doStep F u = (if nI (T + d) ≤ 5000 then ((s_X3_passTicks F (a_X4_now u) (nI d)).bind fun y9 => (some (true, m_X4_now y9.2 u))) else (some (false, u))) := by
      unfold s_X4_doStep
      rw [if_neg (by rw [hl]; decide), if_neg (by rw [hl]; decide), if_neg (by rw [hl]; decide), if_pos hl, i0, d2, htm, ni_add]
    have hw : s_X5_whyNotPassed F w (nI d) = some (if nI (T + d) ≤ 5000 then 0 else 2) := by
      unfold s_X5_whyNotPassed
      rw [m_within, decide_eq_true (show (1 : Int32) ≤ nI d ∧ nI d ≤ 100 from ⟨(ni_le (a := 1) (by omega) (by omega)).mpr (by omega), (ni_le (b := 100) (by omega) (by omega)).mpr (by omega)⟩), Option.bind_some, if_pos rfl, show a_X5_state w (0 : Int32).toNatClampNeg = nI T from q.1.1.2.1, ni_add]
      split <;> rfl
    have hmd : s_X5_does F w = (if (if nI (T + d) ≤ 5000 then (0 : Int32) else 2) = 0 then s_X5_does_b187 F w 1 else s_X5_does_b187 F w 0) := by
      unfold s_X5_does
      rw [if_neg (by rw [k1]; decide), if_neg (by rw [k1]; decide), if_neg (by rw [k1]; decide), if_pos k1, d3, hw, Option.bind_some]
    by_cases hlim : nI (T + d) ≤ 5000
    · have hTd : T + d ≤ 5000 := (ni_le (b := 5000) (by omega) (by omega)).mp hlim
      obtain ⟨e', h', m', x, w', r1, r2, r3, r4, r5, r6, -⟩ := x_pass (F := F) (by omega) (c := d) (by omega) (by omega) q nd
      refine ⟨true, m_X4_now x u, w', T + d, n, e', h', m', ?_, ?_, WX_mono r3 (by omega) hB, r4, hTd, rfl, rfl, SF1.of r6⟩
      · rw [hcl, if_pos hlim, r1, Option.bind_some]
      · rw [hmd, if_pos hlim, if_pos rfl]
        unfold s_X5_does_b187
        rw [if_neg (by decide), d3, r2, Option.bind_some, if_neg (by decide), if_pos rfl]
    · obtain ⟨T', n', e', h', m', t1, t2, t3⟩ := stay
      refine ⟨false, u, w, T', n', e', h', m', ?_, ?_, t1, t2, t3, rfl, rfl, SF1.of (SF.rf w)⟩
      · rw [hcl, if_neg hlim]
      · rw [hmd, if_neg hlim, if_neg (by decide)]
        unfold s_X5_does_b187
        rw [if_pos rfl, if_pos rfl]
  · rw [k1] at hl
    obtain ⟨e', h', m', x, w', r1, r2, r3, r4, r5, r6, -⟩ := x_holdTrial (F := F) (by omega) q nd
    refine ⟨true, m_X4_now x u, w', T, n, e', h', m', ?_, ?_, WX_mono r3 (by omega) hB, r4, hT, rfl, rfl, SF1.of r6⟩
    · unfold s_X4_doStep
      rw [if_neg (by rw [hl]; decide), if_neg (by rw [hl]; decide), if_neg (by rw [hl]; decide), if_neg (by rw [hl]; decide), r1, Option.bind_some]
    · unfold s_X5_does
      rw [if_neg (by rw [k1]; decide), if_neg (by rw [k1]; decide), if_neg (by rw [k1]; decide), if_neg (by rw [k1]; decide), r2, Option.bind_some]
theorem thg_d {c : Nat → Nat} {p : Nat} (h1 : 48 ≤ c p) (h2 : c p ≤ 57) : thg c p (p + 1) (nI (c p - 48)) := Or.inr (Or.inl ⟨rfl, h1, h2, rfl⟩)
/-- a step is read, on both sides -/
theorem x_read {F L a : Nat} (hF : 6400 < F) {c g : Nat → Nat} (hg : ∀ k, k < L → nx (g k) (c k) = some (g (k + 1))) (ha : acc (g L) = true) (hL : a ≤ L) (h0 : g a = 0) {t : S_X2} {w : S_X5} (q : TC L c t) (hat : a_X2_at t = nI a) (hm : MT L c w) :
    ∃ b s t', a < b ∧ b ≤ L ∧ (b < L → c b = 59 ∧ g (b + 1) = 0) ∧ s_X2_readStep F t = some (true, t') ∧ TC L c t' ∧ a_X2_at t' = nI (b + 1) ∧ ∀ n v1, ∃ w1, s_X5_run_l38 F (n + (b - a)) w v1 0 1 (nI a) = s_X5_run_l38 F n w1 v1 (nI s) 1 (nI b) ∧ SN w w1 ∧ KD t' w1 := by
  have haL : a < L := by
    by_cases h : a = L
    · rw [← h, h0] at ha; cases ha
    · omega
  have hn0 := hg a haL
  rw [h0] at hn0
  have hsh : nx 0 (c a) = if c a = 110 then some 1 else if c a = 104 then some 2 else if c a = 115 then some 5 else if c a = 116 then some 8 else if c a = 106 then some 9 else none := rfl
  obtain ⟨F', hF'⟩ : ∃ F', F = F' + 6 := ⟨F - 6, by omega⟩
  have hhead := cl_head (F := F) q hat haL
  obtain ⟨t1, ht1⟩ : ∃ t1, t1 = m_X2_at (nI (a + 1)) (m_X2_letter (nI (c a)) t) := ⟨_, rfl⟩
  have q1 : TC L c t1 := by rw [ht1]; exact q
  have hat1 : a_X2_at t1 = nI (a + 1) := by rw [ht1]
  have hle1 : a_X2_letter t1 = nI (c a) := by rw [ht1]
  rw [← ht1] at hhead
  have first : ∀ s', nx 0 (c a) = some s' → c a ≠ 59 → SG F L c a (a + 1) 0 s' (fun x => (nI (c a), x.2.1, x.2.2.1, x.2.2.2)) := fun s' hn h59 => SG.ch (F := F) (c := c) (k := a) (s := 0) (s' := s') (by omega) haL h59 hn
  have fin : ∀ {b s : Nat} {f : Q4 → Q4} {t' : S_X2}, SG F L c a b 0 s f → (∀ w1, qd w1 = f (qd w) → KD t' w1) → ∀ n v1, ∃ w1, s_X5_run_l38 F (n + (b - a)) w v1 0 1 (nI a) = s_X5_run_l38 F n w1 v1 (nI s) 1 (nI b) ∧ SN w w1 ∧ KD t' w1 := fun sg hk n v1 => by
    obtain ⟨w1, a1, a2, a3⟩ := sg n w v1 hm
    exact ⟨w1, a1, a2, hk w1 a3⟩
  by_cases c110 : c a = 110
  · rw [hsh, if_pos c110] at hn0
    have g1 : g (a + 1) = 1 := (Option.some.inj hn0).symm
    have hb1 : a + 1 < L := by
      by_cases h : a + 1 = L
      · rw [← h, g1] at ha; cases ha
      · omega
    have h2 := hg (a + 1) hb1
    rw [g1] at h2
    have hsh1 : nx 1 (c (a + 1)) = if 48 ≤ c (a + 1) ∧ c (a + 1) ≤ 57 then some 9 else none := rfl
    by_cases hd : 48 ≤ c (a + 1) ∧ c (a + 1) ≤ 57
    · have h2' := h2
      rw [hsh1, if_pos hd] at h2'
      have g9 : g (a + 1 + 1) = 9 := (Option.some.inj h2').symm
      have hnext : a + 2 < L → c (a + 2) = 59 ∧ g (a + 2 + 1) = 0 := fun h => by
        have := hg (a + 2) h
        rw [show a + 2 = a + 1 + 1 from rfl, g9] at this
        exact nx9 this
      have l1 := cl_last (F := F) (n := F' + 4) (i := 0) (by omega) q1 hat1 (by omega) (thg_d hd.1 hd.2) (show a + 1 + 1 ≤ L by omega) (fun h => (hnext h).1) (by omega)
      have l1' : s_X2_readStep_l34 F F t1 0 = _ := (by rw [hF']; rfl : s_X2_readStep_l34 F F t1 0 = s_X2_readStep_l34 F (F' + 4 + 2) t1 (nI 0)).trans l1
      have sg := (first 1 (by rw [hsh, if_pos c110]) (by omega)).tr (SG.ch (F := F) (c := c) (k := a + 1) (s := 1) (s' := 9) (by omega) hb1 (by omega) (by rw [hsh1, if_pos hd])) (by omega) (by omega)
      refine ⟨a + 2, 9, _, by omega, by omega, hnext, hhead.trans l1', ?_, rfl, fin sg fun w1 hw => ?_⟩
      · exact q1
      · have e := hw
        unfold qd at e
        injection e with e1 e2
        injection e2 with e2 e3
        refine ⟨by rw [e1]; exact hle1, Or.inl ⟨by rw [e1, c110]; rfl, c (a + 1) - 48, by omega, (upd_at (a_X2_numbers t1) 0 (nI (c (a + 1) - 48)) : _), ?_⟩⟩
        rw [e2]; exact sub48 hd.1
    · rw [hsh1, if_neg hd] at h2; cases h2
  · rw [hsh, if_neg c110] at hn0
    by_cases c104 : c a = 104
    · rw [if_pos c104] at hn0
      have g1 : g (a + 1) = 2 := (Option.some.inj hn0).symm
      have hb1 : a + 1 < L := by
        by_cases h : a + 1 = L
        · rw [← h, g1] at ha; cases ha
        · omega
      have h2 := hg (a + 1) hb1
      rw [g1] at h2
      have hsh1 : nx 2 (c (a + 1)) = if 48 ≤ c (a + 1) ∧ c (a + 1) ≤ 51 then some 3 else none := rfl
      by_cases hd : 48 ≤ c (a + 1) ∧ c (a + 1) ≤ 51
      · have h2' := h2
        rw [hsh1, if_pos hd] at h2'
        have g3 : g (a + 1 + 1) = 3 := (Option.some.inj h2').symm
        have hb2 : a + 2 < L := by
          by_cases h : a + 1 + 1 = L
          · rw [← h, g3] at ha; cases ha
          · omega
        have h3 := hg (a + 2) hb2
        rw [show a + 2 = a + 1 + 1 from rfl, g3] at h3
        have hsh3 : nx 3 (c (a + 1 + 1)) = if c (a + 1 + 1) = 61 then some 4 else none := rfl
        by_cases h61 : c (a + 1 + 1) = 61
        · have h3' := h3
          rw [hsh3, if_pos h61] at h3'
          have g4 : g (a + 1 + 1 + 1) = 4 := (Option.some.inj h3').symm
          obtain ⟨b, v, b1, b2, b3, b4, b5, b6, s, b7⟩ := seg_held (F := F) hg ha (p := a + 1 + 1 + 1) (by omega) g4
          have l1 := cl_iter (F := F) (n := F' + 5) (i := 0) (by omega) q1 hat1 (by omega) (thg_d hd.1 (by omega)) (show a + 1 + 1 < L by omega) (Or.inr h61) (by omega)
          obtain ⟨t2, ht2⟩ : ∃ t2, t2 = m_X2_at (nI (a + 1 + 1 + 1)) (m_X2_numbers (upd (a_X2_numbers t1) 0 (nI (c (a + 1) - 48))) (m_X2_at (nI (a + 1 + 1)) t1)) := ⟨_, rfl⟩
          have q2 : TC L c t2 := by rw [ht2]; exact q1
          have hat2 : a_X2_at t2 = nI (a + 1 + 1 + 1) := by rw [ht2]
          have hle2 : a_X2_letter t2 = nI (c a) := by rw [ht2]; exact hle1
          have hnu2 : a_X2_numbers t2 0 = nI (c (a + 1) - 48) := by
            rw [ht2]
            show upd (a_X2_numbers t1) 0 _ 0 = _
            exact upd_at _ _ _
          rw [← ht2] at l1
          have l2 := cl_last (F := F) (n := F' + 3) (i := 0 + 1) (by omega) q2 hat2 (by omega) b1 b3 (fun h => (b4 h).1) b5
          have l12 : s_X2_readStep_l34 F F t1 0 = _ := (by rw [hF']; rfl : s_X2_readStep_l34 F F t1 0 = s_X2_readStep_l34 F (F' + 5 + 1) t1 (nI 0)).trans (l1.trans l2)
          have sg := ((first 2 (by rw [hsh, if_neg c110, if_pos c104]) (by omega)).tr (SG.ch (F := F) (c := c) (k := a + 1) (s := 2) (s' := 3) (by omega) hb1 (by omega) (by rw [hsh1, if_pos hd])) (by omega) (by omega)).tr (SG.ch (F := F) (c := c) (k := a + 1 + 1) (s := 3) (s' := 4) (by omega) hb2 (by omega) (by rw [hsh3, if_pos h61])) (by omega) (by omega)
          have sg2 := sg.tr b7 (by omega) (by omega)
          refine ⟨b, s, _, by omega, b3, b4, hhead.trans l12, ?_, rfl, fin sg2 fun w1 hw => ?_⟩
          · exact q2
          · have e := hw
            unfold qd at e
            injection e with e1 e2
            injection e2 with e2 e3
            injection e3 with e3 e4
            refine ⟨by rw [e1]; exact hle2, Or.inr (Or.inl ⟨by rw [e1]; show nI (c a) = 104; rw [c104]; rfl, c (a + 1) - 48, by omega, ?_, ?_, ?_⟩)⟩
            · show upd (a_X2_numbers t2) (0 + 1) v 0 = _
              rw [upd_ne _ _ (by omega)]; exact hnu2
            · rw [e2]; exact sub48 hd.1
            · show upd (a_X2_numbers t2) (0 + 1) v 1 = _
              rw [e4]; exact upd_at _ _ _
        · rw [hsh3, if_neg h61] at h3; cases h3
      · rw [hsh1, if_neg hd] at h2; cases h2
    · rw [if_neg c104] at hn0
      by_cases c115 : c a = 115
      · rw [if_pos c115] at hn0
        have g1 : g (a + 1) = 5 := (Option.some.inj hn0).symm
        obtain ⟨p, d, o1, o2, o3, o4, o5, o6, o7, o8⟩ := seg_owner (F := F) hg ha (p := a + 1) (by omega) g1
        have hb2 : p + 1 < L := by
          by_cases h : p + 1 = L
          · rw [← h, o5] at ha; cases ha
          · omega
        have h2 := hg (p + 1) hb2
        rw [o5] at h2
        have hsh7 : nx 7 (c (p + 1)) = if 48 ≤ c (p + 1) ∧ c (p + 1) ≤ 51 then some 3 else none := rfl
        by_cases hd : 48 ≤ c (p + 1) ∧ c (p + 1) ≤ 51
        · have h2' := h2
          rw [hsh7, if_pos hd] at h2'
          have g3 : g (p + 1 + 1) = 3 := (Option.some.inj h2').symm
          have hb3 : p + 1 + 1 < L := by
            by_cases h : p + 1 + 1 = L
            · rw [← h, g3] at ha; cases ha
            · omega
          have h3 := hg (p + 1 + 1) hb3
          rw [g3] at h3
          have hsh3 : nx 3 (c (p + 1 + 1)) = if c (p + 1 + 1) = 61 then some 4 else none := rfl
          by_cases h61 : c (p + 1 + 1) = 61
          · have h3' := h3
            rw [hsh3, if_pos h61] at h3'
            have g4 : g (p + 1 + 1 + 1) = 4 := (Option.some.inj h3').symm
            obtain ⟨b, v, b1, b2, b3, b4, b5, b6, s, b7⟩ := seg_held (F := F) hg ha (p := p + 1 + 1 + 1) (by omega) g4
            have l1 := cl_iter (F := F) (n := F' + 5) (i := 0) (by omega) q1 hat1 (by omega) o1 o3 (Or.inl o4) o6
            obtain ⟨t2, ht2⟩ : ∃ t2, t2 = m_X2_at (nI (p + 1)) (m_X2_numbers (upd (a_X2_numbers t1) 0 (nI d)) (m_X2_at (nI p) t1)) := ⟨_, rfl⟩
            have q2 : TC L c t2 := by rw [ht2]; exact q1
            have hat2 : a_X2_at t2 = nI (p + 1) := by rw [ht2]
            have hle2 : a_X2_letter t2 = nI (c a) := by rw [ht2]; exact hle1
            have hnu2 : a_X2_numbers t2 0 = nI d := by
              rw [ht2]
              show upd (a_X2_numbers t1) 0 _ 0 = _
              exact upd_at _ _ _
            rw [← ht2] at l1
            have l2 := cl_iter (F := F) (n := F' + 4) (i := 0 + 1) (by omega) q2 hat2 (by omega) (thg_d hd.1 (by omega)) hb3 (Or.inr h61) (by omega)
            obtain ⟨t3, ht3⟩ : ∃ t3, t3 = m_X2_at (nI (p + 1 + 1 + 1)) (m_X2_numbers (upd (a_X2_numbers t2) (0 + 1) (nI (c (p + 1) - 48))) (m_X2_at (nI (p + 1 + 1)) t2)) := ⟨_, rfl⟩
            have q3 : TC L c t3 := by rw [ht3]; exact q2
            have hat3 : a_X2_at t3 = nI (p + 1 + 1 + 1) := by rw [ht3]
            have hle3 : a_X2_letter t3 = nI (c a) := by rw [ht3]; exact hle2
            have hnu3 : a_X2_numbers t3 0 = nI d := by
              rw [ht3]
              show upd (a_X2_numbers t2) (0 + 1) (nI (c (p + 1) - 48)) 0 = _
              rw [upd_ne _ _ (by omega)]; exact hnu2
            have hnu31 : a_X2_numbers t3 1 = nI (c (p + 1) - 48) := by
              rw [ht3]
              show upd (a_X2_numbers t2) (0 + 1) (nI (c (p + 1) - 48)) 1 = _
              exact upd_at _ _ _
            rw [← ht3] at l2
            have l3 := cl_last (F := F) (n := F' + 2) (i := 0 + 1 + 1) (by omega) q3 hat3 (by omega) b1 b3 (fun h => (b4 h).1) b5
            have l12 : s_X2_readStep_l34 F F t1 0 = _ := (by rw [hF']; rfl : s_X2_readStep_l34 F F t1 0 = s_X2_readStep_l34 F (F' + 5 + 1) t1 (nI 0)).trans (l1.trans (l2.trans l3))
            have sg := (((first 5 (by rw [hsh, if_neg c110, if_neg c104, if_pos c115]) (by omega)).tr o8 (by omega) (by omega)).tr (SG.ch (F := F) (c := c) (k := p + 1) (s := 7) (s' := 3) (by omega) hb2 (by omega) (by rw [hsh7, if_pos hd])) (by omega) (by omega)).tr (SG.ch (F := F) (c := c) (k := p + 1 + 1) (s := 3) (s' := 4) (by omega) hb3 (by omega) (by rw [hsh3, if_pos h61])) (by omega) (by omega)
            have sg2 := sg.tr b7 (by omega) (by omega)
            refine ⟨b, s, _, by omega, b3, b4, hhead.trans l12, ?_, rfl, fin sg2 fun w1 hw => ?_⟩
            · exact q3
            · have e := hw
              unfold qd at e
              injection e with e1 e2
              injection e2 with e2 e3
              injection e3 with e3 e4
              refine ⟨by rw [e1]; exact hle3, Or.inr (Or.inr (Or.inl ⟨by rw [e1]; show nI (c a) = 115; rw [c115]; rfl, d, c (p + 1) - 48, o2, by omega, ?_, ?_, ?_, ?_, ?_⟩))⟩
              · show upd (a_X2_numbers t3) (0 + 1 + 1) v 0 = _
                rw [upd_ne _ _ (by omega)]; exact hnu3
              · rw [e2]; rfl
              · show upd (a_X2_numbers t3) (0 + 1 + 1) v 1 = _
                rw [upd_ne _ _ (by omega)]; exact hnu31
              · rw [e3]; exact sub48 hd.1
              · show upd (a_X2_numbers t3) (0 + 1 + 1) v 2 = _
                rw [e4]; exact upd_at _ _ _
          · rw [hsh3, if_neg h61] at h3; cases h3
        · rw [hsh7, if_neg hd] at h2; cases h2
      · rw [if_neg c115] at hn0
        by_cases c116 : c a = 116
        · rw [if_pos c116] at hn0
          have g1 : g (a + 1) = 8 := (Option.some.inj hn0).symm
          obtain ⟨b, d, b1, b2, b2', b3, b4, b5, b6, s, b7⟩ := seg_ticks (F := F) hg ha (p := a + 1) (by omega) g1
          have l1 := cl_last (F := F) (n := F' + 4) (i := 0) (by omega) q1 hat1 (by omega) b1 b3 (fun h => (b4 h).1) b5
          have l1' : s_X2_readStep_l34 F F t1 0 = _ := (by rw [hF']; rfl : s_X2_readStep_l34 F F t1 0 = s_X2_readStep_l34 F (F' + 4 + 2) t1 (nI 0)).trans l1
          have sg := (first 8 (by rw [hsh, if_neg c110, if_neg c104, if_neg c115, if_pos c116]) (by omega)).tr b7 (by omega) (by omega)
          refine ⟨b, s, _, by omega, b3, b4, hhead.trans l1', ?_, rfl, fin sg fun w1 hw => ?_⟩
          · exact q1
          · have e := hw
            unfold qd at e
            injection e with e1 e2
            injection e2 with e2 e3
            exact ⟨by rw [e1]; exact hle1, Or.inr (Or.inr (Or.inr (Or.inl ⟨by rw [e1]; show nI (c a) = 116; rw [c116]; rfl, d, b2, b2', (upd_at (a_X2_numbers t1) 0 (nI d) : _), e2⟩)))⟩
        · rw [if_neg c116] at hn0
          by_cases c106 : c a = 106
          · rw [if_pos c106] at hn0
            have g9 : g (a + 1) = 9 := (Option.some.inj hn0).symm
            have hnext : a + 1 < L → c (a + 1) = 59 ∧ g (a + 1 + 1) = 0 := fun h => by
              have := hg (a + 1) h
              rw [g9] at this
              exact nx9 this
            have l1 := cl_none (F := F) (n := F' + 5) q1 hat1 (by omega) (fun h => (hnext h).1)
            have l1' : s_X2_readStep_l34 F F t1 0 = _ := (by rw [hF'] : s_X2_readStep_l34 F F t1 0 = s_X2_readStep_l34 F (F' + 5 + 1) t1 0).trans l1
            have sg := first 9 (by rw [hsh, if_neg c110, if_neg c104, if_neg c115, if_neg c116, if_pos c106]) (by omega)
            refine ⟨a + 1, 9, _, by omega, by omega, hnext, hhead.trans l1', ?_, rfl, fin sg fun w1 hw => ?_⟩
            · exact q1
            · have e := hw
              unfold qd at e
              injection e with e1 e2
              exact ⟨by rw [e1]; exact hle1, Or.inr (Or.inr (Or.inr (Or.inr (by rw [e1]; show nI (c a) = 106; rw [c106]; rfl))))⟩
          · rw [if_neg c106] at hn0; cases hn0
