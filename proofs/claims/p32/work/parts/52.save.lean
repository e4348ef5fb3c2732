/-! saved states -/
def RS (C s : Nat) (sv : Nat → S_X3) (f : Nat → Int32) : Prop := ∀ j, j < s → ∃ T n e h m, T ≤ 5000 ∧ WX G0 C T n e h m (sv j) (blk f (20377 * j)) ∧ ND T m (blk f (20377 * j))
theorem RS_mono {C C' s : Nat} {sv : Nat → S_X3} {f : Nat → Int32} (q : RS C s sv f) (h1 : C ≤ C') (h2 : C' + 96 ≤ 1200) : RS C' s sv f := fun j hj => by
  obtain ⟨T, n, e, h, m, p1, p2, p3⟩ := q j hj
  exact ⟨T, n, e, h, m, p1, WX_mono p2 h1 h2, p3⟩
theorem RS_cut {C s s' : Nat} {sv : Nat → S_X3} {f : Nat → Int32} (q : RS C s sv f) (h : s' ≤ s) : RS C s' sv f := fun j hj => q j (by omega)
theorem ni_mulc (j : Nat) : nI j * 20377 = nI (20377 * j) := by rw [show (20377 : Int32) = nI 20377 from rfl, ni_mul, Nat.mul_comm]
/-- where the row of the saved states holds a state more -/
theorem x5_save_b56 {F : Nat} (hF : 6400 < F) {C s T n e h m : Nat} (hs : s < 6) {sv : Nat → S_X3} {w : S_X5} {u x : S_X3} (hm : a_X5_savedMany w = nI s) (rs : RS C s sv (a_X5_saved w)) (hT : T ≤ 5000) (q : WX G0 C T n e h m u (a_X5_state w)) (nd : ND T m (a_X5_state w)) :
    ∃ f', s_X5_save_b56 F w = some (m_X5_savedMany (nI (s + 1)) (m_X5_saved f' w)) ∧ ∀ x : S_X3, WX G0 C T n e h m x (a_X5_state w) → RS C (s + 1) (fun j => if j = s then x else sv j) f' := by
  obtain ⟨he, hn, hhm⟩ := WB_e q.1
  have h3 : a_X5_state w (0 + 3) = nI m := q.1.1.2.2.2.2.2.2.2.1
  have hc := x5_copy (n0 := 20377) (n1 := 122262) (a := 0) (b := 20377 * s) hF (a_X5_saved w) (m := m) (by omega) h3 (by omega) (by omega) (by omega) (by omega)
  obtain ⟨f', hf'⟩ : ∃ f : Nat → Int32, f = fun k => if 20377 * s ≤ k ∧ k < 20377 * s + (377 + 5 * m) then a_X5_state w (0 + (k - 20377 * s)) else a_X5_saved w k := ⟨_, rfl⟩
  rw [← hf'] at hc
  refine ⟨f', ?_, fun x qx j hj => ?_⟩
  · unfold s_X5_save_b56
    have hc' : s_X5_copy F 20377 122262 (a_X5_state w) (a_X5_saved w) 0 (a_X5_savedMany w * 20377) = some f' := by rw [hm, ni_mulc]; exact hc
    rw [hc', Option.bind_some, hm, ni_1]
  · show ∃ T n e h m, T ≤ 5000 ∧ WX G0 C T n e h m (if j = s then x else sv j) (blk f' (20377 * j)) ∧ ND T m (blk f' (20377 * j))
    by_cases hjs : j = s
    · rw [hjs, if_pos rfl]
      have hb : ∀ k, k < 377 + 5 * m → blk f' (20377 * s) k = a_X5_state w k := fun k hk => by
        show f' (20377 * s + k) = _
        rw [hf']
        show (if _ then _ else _) = _
        rw [if_pos (by omega), show 0 + (20377 * s + k - 20377 * s) = k by omega]
      exact ⟨T, n, e, h, m, hT, WX_blk qx hb, ND_v nd fun k h1 h2 => hb k h2⟩
    · rw [if_neg hjs]
      obtain ⟨T', n', e', h', m', p1, p2, p3⟩ := rs j (by omega)
      have hhm' := (WB_e p2.1).2.2
      have hb : ∀ k, k < 377 + 5 * m' → blk f' (20377 * j) k = blk (a_X5_saved w) (20377 * j) k := fun k hk => by
        show f' (20377 * j + k) = a_X5_saved w (20377 * j + k)
        rw [hf']
        show (if _ then _ else _) = _
        rw [if_neg (by omega)]
      exact ⟨T', n', e', h', m', p1, WX_blk p2 hb, ND_v p3 fun k h1 h2 => hb k h2⟩
theorem x5_save {F : Nat} (hF : 6400 < F) {C s T n e h m : Nat} (hs : s ≤ 6) {sv : Nat → S_X3} {w : S_X5} {u : S_X3} (hm : a_X5_savedMany w = nI s) (rs : RS C s sv (a_X5_saved w)) (hT : T ≤ 5000) (q : WX G0 C T n e h m u (a_X5_state w)) (nd : ND T m (a_X5_state w)) :
    ∃ f', s_X5_save F w = some (m_X5_savedMany (nI (if s = 6 then 6 else s + 1)) (m_X5_saved f' w)) ∧ ∀ x : S_X3, WX G0 C T n e h m x (a_X5_state w) → RS C (if s = 6 then 6 else s + 1) (fun j => if s = 6 then (if j = 5 then x else sv (j + 1)) else (if j = s then x else sv j)) f' := by
  by_cases h6 : s = 6
  · subst h6
    -- all move by one place
    have loop : ∀ d k nn f, k + d = 6 → d < nn → 1 ≤ k → (∀ j, j < 6 → ∃ T n e h m, T ≤ 5000 ∧ WX G0 C T n e h m (if j + 1 < k then sv (j + 1) else sv j) (blk f (20377 * j)) ∧ ND T m (blk f (20377 * j))) → ∃ f', s_X5_save_l11 F nn (m_X5_saved f w) (nI k) = s_X5_save_b56 F (m_X5_savedMany (nI 5) (m_X5_saved f' w)) ∧ RS C 5 (fun j => sv (j + 1)) f' := by
      intro d
      induction d with
      | zero =>
        intro k nn f hk hnn h1 hf
        obtain ⟨nn, rfl⟩ : ∃ j, nn = j + 1 := ⟨nn - 1, by omega⟩
        obtain rfl : k = 6 := by omega
        refine ⟨f, ?_, fun j hj => ?_⟩
        · have e5 : a_X5_savedMany (m_X5_saved f w) - 1 = nI 5 := by
            show a_X5_savedMany w - 1 = _
            rw [hm]; rfl
          rw [e_X5_save_l11, if_pos (by decide), e5]
        · have := hf j (by omega)
          rw [if_pos (by omega)] at this
          exact this
      | succ d ih =>
        intro k nn f hk hnn h1 hf
        obtain ⟨nn, rfl⟩ : ∃ j, nn = j + 1 := ⟨nn - 1, by omega⟩
        obtain ⟨T', n', e', h', m', p1, p2, p3⟩ := hf k (by omega)
        rw [if_neg (by omega)] at p2
        have hhm' := (WB_e p2.1).2.2
        have h3 : f (20377 * k + 3) = nI m' := p2.1.1.2.2.2.2.2.2.2.1
        have hc := x5_copy_al (n0 := 122262) (a := 20377 * k) (b := 20377 * (k - 1)) hF (f := f) (m := m') (by omega) h3 (by omega) (by omega) (by omega)
        obtain ⟨f1, hf1⟩ : ∃ f1 : Nat → Int32, f1 = fun j => if 20377 * (k - 1) ≤ j ∧ j < 20377 * (k - 1) + (377 + 5 * m') then f (20377 * k + (j - 20377 * (k - 1))) else f j := ⟨_, rfl⟩
        rw [← hf1] at hc
        have hc' : s_X5_copy_al F 122262 (a_X5_saved (m_X5_saved f w)) (nI k * 20377) ((nI k - 1) * 20377) = some f1 := by
          have e1 : nI k - 1 = nI (k - 1) := by
            rw [show (1 : Int32) = nI 1 from rfl, ni_sub (by omega)]
          rw [e1, ni_mulc, ni_mulc]; exact hc
        obtain ⟨f', r1, r2⟩ := ih (k + 1) nn f1 (by omega) (by omega) (by omega) (fun j hj => by
          by_cases hjk : j = k - 1
          · have hb : ∀ i, i < 377 + 5 * m' → blk f1 (20377 * j) i = blk f (20377 * k) i := fun i hi => by
              show f1 (20377 * j + i) = f (20377 * k + i)
              rw [hf1]
              show (if _ then _ else _) = _
              rw [if_pos (by omega)]
              congr 1; omega
            rw [if_pos (by omega), show j + 1 = k by omega]
            exact ⟨T', n', e', h', m', p1, WX_blk p2 hb, ND_v p3 fun i h1 h2 => hb i h2⟩
          · obtain ⟨T2, n2, e2, h2, m2, z1, z2, z3⟩ := hf j hj
            have hhm2 := (WB_e z2.1).2.2
            have hb : ∀ i, i < 377 + 5 * m2 → blk f1 (20377 * j) i = blk f (20377 * j) i := fun i hi => by
              show f1 (20377 * j + i) = f (20377 * j + i)
              rw [hf1]
              show (if _ then _ else _) = _
              rw [if_neg (by omega)]
            have e1 : (if j + 1 < k + 1 then sv (j + 1) else sv j) = (if j + 1 < k then sv (j + 1) else sv j) := by
              by_cases hc : j + 1 < k
              · rw [if_pos hc, if_pos (by omega)]
              · rw [if_neg hc, if_neg (by omega)]
            rw [e1]
            exact ⟨T2, n2, e2, h2, m2, z1, WX_blk z2 hb, ND_v z3 fun i h1 h2 => hb i h2⟩)
        refine ⟨f', ?_, r2⟩
        rw [e_X5_save_l11, if_neg (il_nle (show k < 6 by omega) (by decide)), hc', Option.bind_some, ni_1]
        exact r1
    obtain ⟨f1, r1, r2⟩ := loop 5 1 F (a_X5_saved w) (by omega) (by omega) (by omega) (fun j hj => by rw [if_neg (by omega)]; exact rs j hj)
    obtain ⟨f', b1, b2⟩ := x5_save_b56 hF (s := 5) (by omega) (w := m_X5_savedMany (nI 5) (m_X5_saved f1 w)) (u := u) (x := u) rfl r2 hT q nd
    refine ⟨f', ?_, fun x qx => ?_⟩
    · have r1' : s_X5_save_l11 F F w 1 = _ := r1
      unfold s_X5_save
      rw [hm, if_pos rfl, r1', b1]
      rfl
    · intro j hj
      have := b2 x qx j (by rw [if_pos rfl] at hj; omega)
      show ∃ T n e h m, T ≤ 5000 ∧ WX G0 C T n e h m (if 6 = 6 then (if j = 5 then x else sv (j + 1)) else (if j = 6 then x else sv j)) (blk f' (20377 * j)) ∧ ND T m (blk f' (20377 * j))
      rw [if_pos rfl]
      exact this
  · obtain ⟨f', b1, b2⟩ := x5_save_b56 hF (s := s) (by omega) (w := w) (u := u) (x := u) hm rs hT q nd
    refine ⟨f', ?_, fun x qx => ?_⟩
    · unfold s_X5_save
      rw [hm, if_neg (show ¬ nI s = 6 from fun z => h6 ((ni_eq (b := 6) (by omega) (by omega)).mp z)), b1, if_neg h6]
    · have := b2 x qx
      rw [if_neg h6]
      simp only [if_neg h6]
      exact this
/-- the latest one comes back -/
theorem x5_undo {F : Nat} (hF : 6400 < F) {C s : Nat} (hs : s < 6) {sv : Nat → S_X3} {w : S_X5} (hm : a_X5_savedMany w = nI (s + 1)) (rs : RS C (s + 1) sv (a_X5_saved w)) :
    ∃ v', s_X5_undo F w = some (nI s, m_X5_state v' (m_X5_savedMany (nI s) (m_X5_thrown 0 w))) ∧ ∃ T n e h m, T ≤ 5000 ∧ WX G0 C T n e h m (sv s) v' ∧ ND T m v' := by
  obtain ⟨T, n, e, h, m, p1, p2, p3⟩ := rs s (by omega)
  have hhm := (WB_e p2.1).2.2
  have h3 : a_X5_saved w (20377 * s + 3) = nI m := p2.1.1.2.2.2.2.2.2.2.1
  have hc := x5_copy (n0 := 122262) (n1 := 20377) (a := 20377 * s) (b := 0) hF (f := a_X5_saved w) (a_X5_state w) (m := m) (by omega) h3 (by omega) (by omega) (by omega) (by omega)
  obtain ⟨v', hv'⟩ : ∃ f : Nat → Int32, f = fun k => if 0 ≤ k ∧ k < 0 + (377 + 5 * m) then a_X5_saved w (20377 * s + (k - 0)) else a_X5_state w k := ⟨_, rfl⟩
  rw [← hv'] at hc
  have hb : ∀ k, k < 377 + 5 * m → v' k = blk (a_X5_saved w) (20377 * s) k := fun k hk => by
    rw [hv']
    show (if _ then _ else _) = a_X5_saved w (20377 * s + k)
    rw [if_pos (by omega), Nat.sub_zero]
  have e1 : a_X5_savedMany w - 1 = nI s := by rw [hm, show (1 : Int32) = nI 1 from rfl, ni_sub (by omega)]; rfl
  refine ⟨v', ?_, T, n, e, h, m, p1, WX_blk p2 hb, ND_v p3 fun k h1 h2 => hb k h2⟩
  unfold s_X5_undo
  rw [if_neg (by rw [hm]; exact fun z => by have := (ni_le (b := 0) (by omega) (by omega)).mp z; omega)]
  unfold s_X5_undo_b13
  rw [if_pos (by decide), e1, ni_mulc]
  have hc' : s_X5_copy F 122262 20377 (a_X5_saved w) (a_X5_state w) (nI (20377 * s)) 0 = some v' := hc
  rw [hc', Option.bind_some]
