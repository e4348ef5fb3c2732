abbrev on4 {α : Type} (S : S_X6) (o : Option (α × S_X4)) : Option (α × S_X6) := o.map fun y => (y.1, m_X6_g y.2 S)
abbrev on0 {α : Type} (S : S_X6) (o : Option α) : Option (α × S_X6) := o.map fun y => (y, S)
theorem p_append {F : Nat} {c : Nat} (hc : c < 512) {S : S_X6} {w : S_X5} (q : REL c S w) (v1 : Int32) : OUT c S w (on4 S (s_X4_append F S.1 v1)) (s_X4_append_e F S.1 v1) (s_X5_append F w v1) := by
  obtain ⟨T, n, e, h, m, s, L, ch, hL, r⟩ := id q
  obtain ⟨q1, q2, q3, q4, q5, q6, q7, q8, q9⟩ := id r
  have t1 : ∀ k : Nat, 1 ≤ k → k ≤ 3 → s_X5_append_b30 F w v1 (nI k) = some (0, m_X5_thrown (nI k) w) := fun k h1 h3 => by
    unfold s_X5_append_b30
    rw [if_neg (show ¬ nI k ≤ 0 from fun z => by have := (ni_le (b := 0) (by omega) (by omega)).mp z; omega)]
  have hl1 := q8.2.1
  have hl2 := q8.2.2.1
  have hL60 := q8.1
  by_cases hr : (33 : Int32) ≤ v1 ∧ v1 ≤ 126
  · obtain ⟨d, hd, rfl⟩ : ∃ k, k < 2147483648 ∧ v1 = nI k := by
      rcases i32_case v1 with z | z
      · exfalso
        exact Int32.not_lt.mpr (Int32.le_trans (show (0 : Int32) ≤ 33 by decide) hr.1) z
      · exact z
    have hd1 : d ≤ 126 := (ni_le (b := 126) hd (by omega)).mp hr.2
    have hd0 : 33 ≤ d := (ni_le (a := 33) (by omega) hd).mp hr.1
    by_cases h60 : L = 60
    · refine OUT.thr q hc 2 (by omega) (by omega) ?_ ?_
      · unfold s_X5_append
        rw [m_within, decide_eq_true hr, Option.bind_some, if_pos rfl, hl2, h60, if_pos (show (nI 60 : Int32) = 60 from rfl)]
        exact t1 2 (by omega) (by omega)
      · unfold s_X4_append_e
        rw [if_neg (Int32.not_lt.mpr hr.1), if_pos hr.2, hl1, h60, if_neg (by decide)]
    · refine OUT.ok (z := nI (L + 1)) (S' := m_X6_g (m_X4_text (m_X2_length (nI (L + 1)) (m_X2_codes (upd (a_X2_codes (a_X4_text S.1)) L (nI d)) (a_X4_text S.1))) S.1) S) (w' := m_X5_textLength (nI (L + 1)) (m_X5_text (upd (a_X5_text w) L (nI d)) (m_X5_thrown 0 w))) ?_ rfl ?_ ?_
      · have r2 := r.more (B' := 2 * (c + 1) - (L + 1)) (by omega) (by omega)
        obtain ⟨p1, p2, p3, p4, p5, p6, p7, p8, p9⟩ := r2
        refine ⟨T, n, e, h, m, s, L + 1, fun k => if k = L then d else ch k, by omega, p1, p2, p3, p4, p5, p6, p7, ⟨by omega, rfl, rfl, fun k hk => ?_⟩, p9⟩
        by_cases hk2 : k = L
        · subst hk2
          show (if k = k then d else ch k) < 127 ∧ 33 ≤ (if k = k then d else ch k) ∧ upd (a_X2_codes (a_X4_text S.1)) k (nI d) k = nI (if k = k then d else ch k) ∧ upd (a_X5_text w) k (nI d) k = nI (if k = k then d else ch k)
          rw [if_pos rfl]
          exact ⟨by omega, hd0, upd_at _ _ _, upd_at _ _ _⟩
        · simp only [if_neg hk2]
          obtain ⟨z1, z2, z3, z4⟩ := q8.2.2.2 k (by omega)
          exact ⟨z1, z2, (upd_ne _ _ hk2).trans z3, (upd_ne _ _ hk2).trans z4⟩
      · unfold s_X5_append
        rw [m_within, decide_eq_true hr, Option.bind_some, if_pos rfl, hl2, if_neg (show ¬ nI L = 60 from fun z => h60 ((ni_eq (b := 60) (by omega) (by omega)).mp z))]
        unfold s_X5_append_b30
        rw [if_pos (by decide), hl2, if_pos (ni_lx (by omega) (by omega)), ni_nat (by omega), ni_1]
      · have : s_X4_append F S.1 (nI d) = some (nI (L + 1), m_X4_text (m_X2_length (nI (L + 1)) (m_X2_codes (upd (a_X2_codes (a_X4_text S.1)) L (nI d)) (a_X4_text S.1))) S.1) := by
          unfold s_X4_append
          rw [if_neg (Int32.not_lt.mpr hr.1), if_pos hr.2, hl1, if_pos (show nI L < 60 from (ni_lt (b := 60) (by omega) (by omega)).mpr (by omega)), if_pos (ni_lx (by omega) (by omega)), ni_nat (by omega), ni_1]
        rw [this]
        rfl
  · refine OUT.thr q hc 1 (by omega) (by omega) ?_ ?_
    · unfold s_X5_append
      rw [m_within, decide_eq_false hr, Option.bind_some, if_neg Bool.false_ne_true]
      exact t1 1 (by omega) (by omega)
    · unfold s_X4_append_e
      by_cases h0 : v1 < 33
      · rw [if_pos h0]
      · rw [if_neg h0, if_neg fun z => hr ⟨Int32.not_lt.mp h0, z⟩]
theorem p_clear {F : Nat} {c : Nat} (hc : c < 512) {S : S_X6} {w : S_X5} (q : REL c S w) : OUT c S w (on4 S (s_X4_clearBuffer F S.1)) none (s_X5_clearBuffer F w) := by
  obtain ⟨T, n, e, h, m, s, L, ch, hL, r⟩ := id q
  have hl1 := r.2.2.2.2.2.2.2.1.2.1
  have hl2 := r.2.2.2.2.2.2.2.1.2.2.1
  refine OUT.ok (z := nI L) (S' := m_X6_g (m_X4_text (m_X2_length 0 (a_X4_text S.1)) S.1) S) (w' := m_X5_textLength 0 (m_X5_thrown 0 w)) ?_ rfl ?_ ?_
  · have r2 := r.more (B' := 2 * (c + 1) - 0) (by omega) (by omega)
    obtain ⟨p1, p2, p3, p4, p5, p6, p7, p8, p9⟩ := r2
    exact ⟨T, n, e, h, m, s, 0, ch, by omega, p1, p2, p3, p4, p5, p6, p7, ⟨by omega, rfl, rfl, fun k hk => absurd hk (by omega)⟩, p9⟩
  · unfold s_X5_clearBuffer
    rw [hl2]
  · unfold s_X4_clearBuffer
    rw [hl1]
    rfl
theorem p_first {F : Nat} (hF : 6400 < F) {c : Nat} (hc : c < 512) {S : S_X6} {w : S_X5} (q : REL c S w) : OUT c S w (on0 S (s_X4_firstError F S.1)) none (s_X5_firstError F w) := by
  obtain ⟨T, n, e, h, m, s, L, ch, hL, r⟩ := id q
  obtain ⟨z, z1, z2⟩ := x_firstError (F := F) (by omega) (w := m_X5_thrown 0 w) r.2.2.2.2.2.2.2.1
  refine OUT.ok (z := z) (S' := S) (w' := m_X5_thrown 0 w) ((q.more hc).thr 0) rfl ?_ ?_
  · unfold s_X5_firstError
    exact z2
  · unfold s_X4_firstError
    rw [z1]
    rfl
theorem p_undo {F : Nat} (hF : 6400 < F) {c : Nat} (hc : c < 512) {S : S_X6} {w : S_X5} (q : REL c S w) : OUT c S w (s_X4_undo_6 F S) (s_X4_undo_e F S.1) (s_X5_undo F w) := by
  obtain ⟨T, n, e, h, m, s, L, ch, hL, r⟩ := id q
  obtain ⟨q1, q2, q3, q4, q5, q6, q7, q8, q9⟩ := id r
  have hpi := pi_ok_all q9.1
  by_cases h0 : s = 0
  · subst h0
    refine OUT.thr q hc 1 (by omega) (by omega) ?_ ?_
    · unfold s_X5_undo
      rw [if_pos (show a_X5_savedMany w ≤ 0 by rw [q6]; decide)]
      unfold s_X5_undo_b13
      rw [if_neg (by decide)]
      rfl
    · unfold s_X4_undo_e
      rw [if_neg (show ¬ 0 < a_X4_savedStates S.1 by rw [q5]; decide)]
  · obtain ⟨s, rfl⟩ : ∃ j, s = j + 1 := ⟨s - 1, by omega⟩
    obtain ⟨v', r1, T', n', e', h', m', z1, z2, z3⟩ := x5_undo hF (s := s) (by omega) q6 q7
    obtain ⟨y, y1, -, y3⟩ := x3_copyFrom (F := F) (a_X4_now S.1) z2
    have e1 : a_X4_savedStates S.1 - 1 = nI s := by rw [q5, show (1 : Int32) = nI 1 from rfl, ni_sub (by omega)]; rfl
    refine OUT.ok (z := nI s) (S' := (m_X4_now y (m_X4_savedStates (nI s) S.1), S.2.1, S.2.2)) (w' := m_X5_state v' (m_X5_savedMany (nI s) (m_X5_thrown 0 w))) ?_ rfl r1 ?_
    · have r2 := r.more (B' := 2 * (c + 1) - L) (by omega) (by omega)
      obtain ⟨p1, p2, p3, p4, p5, p6, p7, p8, p9⟩ := r2
      exact ⟨T', n', e', h', m', s, L, ch, by omega, z1, by omega, WX_mono y3 (by omega) (by omega), z3, rfl, rfl, RS_cut p7 (by omega), q8, q9⟩
    · unfold s_X4_undo_6
      rw [if_pos (show 0 < a_X4_savedStates S.1 by rw [q5]; exact (ni_lt (a := 0) (by omega) (by omega)).mpr (by omega)), e1, if_pos (ni_lx (by omega) (by omega)), ni_nat (by omega), if_pos (hpi s (by omega)), y1, Option.bind_some]
