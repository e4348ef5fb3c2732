/-! the class's Holdings -/
def hl_W (h : Nat → Int32) : List ev_E := [.inr (0, [.ref 1]), .inl (0, 100, .inl h)]
def hl_at (h : Nat → Int32) (p : Int32) : Int32 := if p < 0 then -1 else if 100 ≤ p then -1 else h p.toNatClampNeg
def hl_hold (h : Nat → Int32) (p t : Int32) : Nat → Int32 := if p < 0 then h else if 100 ≤ p then h else upd h p.toNatClampNeg t
def hl_taken (h : Nat → Int32) : Int32 := fo_it 100 (fun k a => if h k = -1 then a else a + 1) 0
def hl_truth (h : Nat → Int32) (t : Int32) : Int32 := fo_it 100 (fun k a => if h k = t then a + 1 else a) 0

set_option maxRecDepth 20000 in
theorem t_X0_at (h : Nat → Int32) (p : Int32) : ev_A yX0_at mm_X0_at none [.ref 0, .int p] (hl_W h) (fun r w => r = some (.int (hl_at h p)) ∧ w = hl_W h) := by
  refine ev_start ok_X0_at (by decide +kernel) rfl rfl (Nat.le_of_ble_eq_true rfl) ?_
  refine ev_run [] 1 rfl trivial ?_
  refine ev_br rfl rfl (fun h1 => ?_) (fun h1 => ?_)
  · refine ev_run [] 1 rfl trivial ?_
    refine ev_exit ⟨_, _, rfl, ⟨rfl, Or.inl rfl⟩, ?_, Nat.le_refl _, Nat.le_refl _⟩
    exact ⟨by simp [hl_at, h1], rfl⟩
  · refine ev_run [] 2 rfl trivial ?_
    refine ev_br rfl rfl (fun h2 => ?_) (fun h2 => ?_)
    · refine ev_run [] 1 rfl trivial ?_
      refine ev_exit ⟨_, _, rfl, ⟨rfl, Or.inl rfl⟩, ?_, Nat.le_refl _, Nat.le_refl _⟩
      exact ⟨by simp [hl_at, h1, h2], rfl⟩
    · refine ev_run [] 5 rfl ?_ ?_
      · exact vp_of h1 (by decide) h2
      refine ev_exit ⟨_, _, rfl, ⟨rfl, Or.inl rfl⟩, ?_, Nat.le_refl _, Nat.le_refl _⟩
      exact ⟨by simp [hl_at, h1, h2], rfl⟩

set_option maxRecDepth 20000 in
theorem t_X0_hold (h : Nat → Int32) (p t : Int32) : ev_A yX0_hold mm_X0_hold none [.ref 0, .int p, .int t] (hl_W h) (fun r w => r = none ∧ w = hl_W (hl_hold h p t)) := by
  refine ev_start ok_X0_hold (by decide +kernel) rfl rfl (Nat.le_of_ble_eq_true rfl) ?_
  refine ev_run [] 1 rfl trivial ?_
  refine ev_br rfl rfl (fun h1 => ?_) (fun h1 => ?_)
  · refine ev_exit ⟨_, _, rfl, ⟨rfl, rfl⟩, ?_, Nat.le_refl _, Nat.le_refl _⟩
    exact ⟨rfl, by simp [hl_hold, hl_W, h1]⟩
  · refine ev_run [] 2 rfl trivial ?_
    refine ev_br rfl rfl (fun h2 => ?_) (fun h2 => ?_)
    · refine ev_exit ⟨_, _, rfl, ⟨rfl, rfl⟩, ?_, Nat.le_refl _, Nat.le_refl _⟩
      exact ⟨rfl, by simp [hl_hold, hl_W, h1, h2]⟩
    · refine ev_run [] 5 rfl ?_ ?_
      · exact vp_of h1 (by decide) h2
      refine ev_exit ⟨_, _, rfl, ⟨rfl, rfl⟩, ?_, Nat.le_refl _, Nat.le_refl _⟩
      exact ⟨rfl, by simp [hl_hold, hl_W, h1, h2]⟩

set_option maxRecDepth 20000 in
theorem t_X0_truthOf (h : Nat → Int32) (t : Int32) : ev_A yX0_truthOf mm_X0_truthOf none [.ref 0, .int t] (hl_W h) (fun r w => r = some (.int (hl_truth h t)) ∧ w = hl_W h) := by
  have lp4 : ∀ n k : Nat, k + n = 100 → ev_V mm_X0_truthOf none (ev_XR mm_X0_truthOf (fun r w => r = some (.int (hl_truth h t)) ∧ w = hl_W h)) 4 [some (.ref 0), some (.int t), some (.int (fo_it k (fun k a => if h k = t then a + 1 else a) 0)), some (.int (nI (k)))] [] (hl_W h) 0 0 := by
    intro n
    induction n with
    | zero =>
      intro k hk
      obtain rfl : k = 100 := by omega
      refine ev_run [4] 2 rfl trivial ?_
      refine ev_br rfl rfl (fun h1 => ?_) (fun h1 => (h1 (by decide)).elim)
      refine ev_run [4] 1 rfl trivial ?_
      refine ev_exit ⟨_, _, rfl, ⟨rfl, Or.inl rfl⟩, ?_, Nat.le_refl _, Nat.le_refl _⟩
      exact ⟨rfl, rfl⟩
    | succ n ih =>
      intro k hk
      have hkN : k < 100 := by omega
      have e9 : (nI k).toNatClampNeg = k := ni_nat (by omega)
      refine ev_run [4] 2 rfl trivial ?_
      refine ev_br rfl rfl (fun h2 => (ni_nle hkN (by decide) h2).elim) (fun h2 => ?_)
      refine ev_run [4] 5 rfl ?_ ?_
      · exact ni_in hkN (by omega)
      refine ev_br rfl rfl (fun h3 => ?_) (fun h3 => ?_)
      · try rw [e9] at h3
        refine ev_run [4] 2 rfl trivial ?_
        exact ev_to (ih (k + 1) (by omega)) (by simp [fo_S, ni_1, e9, h3]) rfl (rfl)
      · try rw [e9] at h3
        refine ev_run [4] 3 rfl trivial ?_
        exact ev_to (ih (k + 1) (by omega)) (by simp [fo_S, ni_1, e9, h3]) rfl (rfl)
  refine ev_start ok_X0_truthOf (by decide +kernel) rfl rfl (Nat.le_of_ble_eq_true rfl) ?_
  refine ev_run [4] 4 rfl trivial ?_
  exact ev_to (lp4 100 0 (by omega)) rfl rfl rfl

set_option maxRecDepth 20000 in
theorem t_X0_taken (h : Nat → Int32) : ev_A yX0_taken mm_X0_taken none [.ref 0] (hl_W h) (fun r w => r = some (.int (hl_taken h)) ∧ w = hl_W h) := by
  have lp4 : ∀ n k : Nat, k + n = 100 → ev_V mm_X0_taken none (ev_XR mm_X0_taken (fun r w => r = some (.int (hl_taken h)) ∧ w = hl_W h)) 4 [some (.ref 0), some (.int (fo_it k (fun k a => if h k = -1 then a else a + 1) 0)), some (.int (nI (k)))] [] (hl_W h) 0 0 := by
    intro n
    induction n with
    | zero =>
      intro k hk
      obtain rfl : k = 100 := by omega
      refine ev_run [4] 2 rfl trivial ?_
      refine ev_br rfl rfl (fun h1 => ?_) (fun h1 => (h1 (by decide)).elim)
      refine ev_run [4] 1 rfl trivial ?_
      refine ev_exit ⟨_, _, rfl, ⟨rfl, Or.inl rfl⟩, ?_, Nat.le_refl _, Nat.le_refl _⟩
      exact ⟨rfl, rfl⟩
    | succ n ih =>
      intro k hk
      have hkN : k < 100 := by omega
      have e9 : (nI k).toNatClampNeg = k := ni_nat (by omega)
      refine ev_run [4] 2 rfl trivial ?_
      refine ev_br rfl rfl (fun h2 => (ni_nle hkN (by decide) h2).elim) (fun h2 => ?_)
      refine ev_run [4] 5 rfl ?_ ?_
      · exact ni_in hkN (by omega)
      refine ev_br rfl rfl (fun h3 => ?_) (fun h3 => ?_)
      · try rw [e9] at h3
        refine ev_run [4] 2 rfl trivial ?_
        exact ev_to (ih (k + 1) (by omega)) (by simp [fo_S, ni_1, e9, h3]) rfl (rfl)
      · try rw [e9] at h3
        refine ev_run [4] 3 rfl trivial ?_
        exact ev_to (ih (k + 1) (by omega)) (by simp [fo_S, ni_1, e9, h3]) rfl (rfl)
  refine ev_start ok_X0_taken (by decide +kernel) rfl rfl (Nat.le_of_ble_eq_true rfl) ?_
  refine ev_run [4] 4 rfl trivial ?_
  exact ev_to (lp4 100 0 (by omega)) rfl rfl rfl
