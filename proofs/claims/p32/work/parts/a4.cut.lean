/-! the best cut, in the class and the engine -/
theorem EH.empty {u : S_X3} {th sl sl' : Nat → Int32} (q : EH u th sl) {k : Nat} (hk : k < 28) (hs : ∀ j, j < 28 → sl' j = if j = ea k then -1 else sl j) : EH (m_X3_hold (upd (a_X3_hold u) k (-1)) u) th sl' := by
  obtain ⟨q1, q2, q3, q4, q5, q6⟩ := q
  refine ⟨q1, fun j hj => ?_, fun j hj => ?_, fun j hj => ?_, fun o ho hl j hj => ?_, q6⟩
  · show sl' j = upd (a_X3_hold u) k (-1) (4 + j)
    rw [hs j (by omega)]
    unfold ea
    by_cases h : 4 + j = k
    · rw [h, upd_at, if_pos (by rw [if_neg (by omega)]; omega)]
    · rw [upd_ne _ _ h, if_neg (by split <;> omega), q2 j hj]
  · show sl' (24 + j) = upd (a_X3_hold u) k (-1) j
    rw [hs _ (by omega)]
    unfold ea
    by_cases h : j = k
    · rw [h, upd_at, if_pos (by rw [if_pos (by omega)])]
    · rw [upd_ne _ _ h, if_neg (by split <;> omega), q3 j hj]
  · show upd (a_X3_hold u) k (-1) j = -1 ∨ ∃ t, t < 6 ∧ upd (a_X3_hold u) k (-1) j = nI t ∧ mb (a_X3_living u) t = true
    by_cases h : j = k
    · rw [h, upd_at]; exact Or.inl rfl
    · rw [upd_ne _ _ h]; exact q4 j hj
  · show upd (a_X3_hold u) k (-1) (4 + 4 * o + j) = -1
    by_cases h : 4 + 4 * o + j = k
    · rw [h, upd_at]
    · rw [upd_ne _ _ h]; exact q5 o ho hl j hj
section
variable {F B T e h m : Nat} {u : S_X4} {v : Nat → Int32} {E : S_XE}
theorem k_bestCut (hF : 6400 < F) (q : KE B T e h m (a_X4_now u) v E) : s_X4_bestCut F u 0 = some (cutF (cutL F (a_X3_hold (a_X4_now u))) 28).1 ∧ s_X4_bestCut F u 1 = some (cutF (cutL F (a_X3_hold (a_X4_now u))) 28).2 := by
  have hok := q.eh.hOK
  have hcut := x0_cut (F := F) (by omega) hok
  have hmore := cutF_more (L := cutL F (a_X3_hold (a_X4_now u))) 28 72 (fun k h1 h2 => by
    unfold cutL
    have hl : mb (a_X3_living (a_X4_now u)) (k / 4 - 1) = false := by
      cases hl : mb (a_X3_living (a_X4_now u)) (k / 4 - 1) with
      | false => rfl
      | true => have := q.eh.2.2.2.2.2 _ hl; omega
    have := q.eh.2.2.2.2.1 (k / 4 - 1) (by omega) hl (k % 4) (by omega)
    rw [show 4 + 4 * (k / 4 - 1) + k % 4 = k by omega] at this
    rw [if_pos this])
  have h100 : cutF (cutL F (a_X3_hold (a_X4_now u))) 100 = cutF (cutL F (a_X3_hold (a_X4_now u))) 28 := hmore
  have hc1 := x0_cut1 (F := F) (by omega) hok
  rw [h100] at hcut hc1
  constructor
  · unfold s_X4_bestCut s_X4_bestCut_b19
    rw [if_pos rfl, hcut, Option.bind_some, if_pos rfl]
  · unfold s_X4_bestCut s_X4_bestCut_b19
    rw [if_neg (by decide), if_pos rfl, hcut, Option.bind_some, if_neg (by decide)]
    rcases hc1 with ⟨z1, z2⟩ | ⟨z1, z2⟩
    · rw [if_pos z1, z2]
    · rw [if_neg z1, z2, Option.bind_some]
/-- how many would be let go: the class's number and the engine's -/
theorem k_lost (hF : 6400 < F) (q : KE B T e h m (a_X4_now u) v E) {all : Int32} (hall : ∀ t, mb all t = true ↔ hTop (a_X3_hold (a_X4_now u)) (-1) t) (hall6 : ∀ t, mb all t = true → t < 6) {k : Nat} (hk : k < 28) {sl' : Nat → Int32} (hs : ∀ j, j < 28 → sl' j = if j = ea k then -1 else E.2.2.1 j) :
    ∃ r, s_L_held F 48 28 E.2.1 sl' = some r ∧ nI (cn (mb all) 6) - nI (cn (mb r) 6) = cutL F (a_X3_hold (a_X4_now u)) k := by
  have eh := q.eh
  obtain ⟨r, r1, r2, r3⟩ := e_held hF (eh.empty hk hs)
  refine ⟨r, r1, ?_⟩
  have r2' : ∀ t, mb r t = true ↔ hTop (upd (a_X3_hold (a_X4_now u)) k (-1)) (-1) t := r2
  unfold cutL
  by_cases hc : a_X3_hold (a_X4_now u) k = -1
  · rw [if_pos hc]
    have hup : upd (a_X3_hold (a_X4_now u)) k (-1) = a_X3_hold (a_X4_now u) := by rw [← hc, upd_id]
    rw [hup] at r2'
    have : r = all := bits_eq r2' hall
    rw [this, Int32.sub_self]
  · rw [if_neg hc]
    obtain ⟨a, b, -, -, a3, b3, b4⟩ := x0_lost (F := F) (by omega) eh.hOK (k := k) (by omega)
    rw [b4]
    have ha : a = all := bits_eq a3 hall
    have hb : b = r := bits_eq b3 fun t => (r2' t).trans (hTop_upd (by omega) t)
    show _ = jd_bc a - jd_bc b
    rw [ha, hb, bcn (n := 6) (by omega) hall6, bcn (n := 6) (by omega) r3]
set_option maxHeartbeats 1000000 in
theorem e_cutLoop (hF : 6400 < F) (q : KE B T e h m (a_X4_now u) v E) {all : Int32} (hall : ∀ t, mb all t = true ↔ hTop (a_X3_hold (a_X4_now u)) (-1) t) (hall6 : ∀ t, mb all t = true → t < 6) (qs ts ss rs : Nat → Int32) :
    ∃ ss', s_L_would_l414 F all F (E.1, E.2.1, E.2.2.1, E.2.2.2, qs, ts, ss, rs, u) (-1) 0 0 = some (true, (E.1, E.2.1, E.2.2.1, E.2.2.2, qs, ts, ss', rs, u)) := by
  obtain ⟨L, hL⟩ : ∃ L, L = cutL F (a_X3_hold (a_X4_now u)) := ⟨_, rfl⟩
  obtain ⟨c0, c1⟩ := k_bestCut hF q
  rw [← hL] at c0 c1
  obtain ⟨eq, th, sl, re⟩ := E
  dsimp only
  have step : ∀ n k ss, k < 28 → ∃ ss', s_L_would_l414 F all (n + 1) (eq, th, sl, re, qs, ts, ss, rs, u) (cutF L k).1 (cutF L k).2 (nI k) = s_L_would_l414 F all n (eq, th, sl, re, qs, ts, ss', rs, u) (cutF L (k + 1)).1 (cutF L (k + 1)).2 (nI (k + 1)) := by
    intro n k ss hk
    obtain ⟨y1, hy1⟩ : ∃ y1 : Nat → Int32, y1 = fun j => if j < 28 then sl j else ss j := ⟨_, rfl⟩
    have hcp := e_copy (F := F) (n := 28) hF (by omega) sl ss
    rw [← hy1] at hcp
    have hea : ea k < 28 := by unfold ea; split <;> omega
    obtain ⟨r, r1, r2⟩ := k_lost hF q hall hall6 hk (sl' := upd y1 (ea k) (-1)) (fun j hj => by
      by_cases hjk : j = ea k
      · rw [hjk, upd_at, if_pos rfl]
      · rw [upd_ne _ _ hjk, if_neg hjk, hy1]; exact if_pos hj)
    rw [← hL] at r2
    have b439 : s_L_would_b439 F (s_L_would_l414 F all n) (eq, th, sl, re, qs, ts, ss, rs, u) all (cutF L k).1 (cutF L k).2 (nI k) (nI (ea k)) = s_L_would_l414 F all n (eq, th, sl, re, qs, ts, upd y1 (ea k) (-1), rs, u) (cutF L (k + 1)).1 (cutF L (k + 1)).2 (nI (k + 1)) := by
      have hcp' : s_L_copy F 28 28 (a_XW_sl (eq, th, sl, re, qs, ts, ss, rs, u)) (a_XW_ss (eq, th, sl, re, qs, ts, ss, rs, u)) = some y1 := hcp
      have r1' : s_L_held F 48 28 (a_XW_th (eq, th, sl, re, qs, ts, ss, rs, u)) (upd y1 (ea k) (-1)) = some r := r1
      have hss : m_XW_ss (upd y1 (ea k) (-1)) (eq, th, sl, re, qs, ts, ss, rs, u) = (eq, th, sl, re, qs, ts, upd y1 (ea k) (-1), rs, u) := rfl
      unfold s_L_would_b439 s_L_would_b486
      rw [hcp', Option.bind_some, if_pos (ni_lx hea (by decide)), e_bits hF, Option.bind_some, ni_nat (by omega), r1', Option.bind_some, e_bits hF, Option.bind_some, r2, hss, ni_1]
      show _ = s_L_would_l414 F all n _ (if L k ≤ (cutF L k).2 then cutF L k else (nI k, L k)).1 (if L k ≤ (cutF L k).2 then cutF L k else (nI k, L k)).2 (nI (k + 1))
      by_cases hc : L k ≤ (cutF L k).2
      · rw [if_pos hc, if_pos hc, if_pos hc]
      · rw [if_neg hc, if_neg hc, if_neg hc]
    refine ⟨upd y1 (ea k) (-1), ?_⟩
    rw [e_L_would_l414, if_neg (il_nle hk (by decide)), ← b439]
    unfold ea
    by_cases h4 : k < 4
    · rw [if_neg (show ¬ (4 : Int32) ≤ nI k from il_nle h4 (by decide)), if_pos h4, show (24 : Int32) + nI k = nI (24 + k) from ni_add 24 k]
    · rw [if_pos (show (4 : Int32) ≤ nI k from (ni_le (a := 4) (by omega) (by omega)).mpr (by omega)), if_neg h4, show nI k - (4 : Int32) = nI (k - 4) from ni_sub (b := 4) (by omega)]
  have key : ∀ d k n ss, k + d = 28 → d < n → ∃ ss', s_L_would_l414 F all n (eq, th, sl, re, qs, ts, ss, rs, u) (cutF L k).1 (cutF L k).2 (nI k) = some (true, (eq, th, sl, re, qs, ts, ss', rs, u)) := by
    intro d
    induction d with
    | zero =>
      intro k n ss hk hn
      obtain ⟨n, rfl⟩ : ∃ j, n = j + 1 := ⟨n - 1, by omega⟩
      obtain rfl : k = 28 := by omega
      refine ⟨ss, ?_⟩
      have c0' : s_X4_bestCut F (a_XW_g (eq, th, sl, re, qs, ts, ss, rs, u)) 0 = some (cutF L 28).1 := c0
      have c1' : s_X4_bestCut F (a_XW_g (eq, th, sl, re, qs, ts, ss, rs, u)) 1 = some (cutF L 28).2 := c1
      rw [e_L_would_l414, if_pos (by decide)]
      unfold s_L_would_b510
      rw [c0', Option.bind_some, if_pos rfl, c1', Option.bind_some, if_pos rfl]
    | succ d ih =>
      intro k n ss hk hn
      obtain ⟨n, rfl⟩ : ∃ j, n = j + 1 := ⟨n - 1, by omega⟩
      obtain ⟨ss1, h1⟩ := step n k ss (by omega)
      obtain ⟨ss2, h2⟩ := ih (k + 1) n ss1 (by omega) (by omega)
      exact ⟨ss2, h1.trans h2⟩
  exact key 28 0 F ss rfl (by omega)
end
