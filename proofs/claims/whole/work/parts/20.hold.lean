/-! the class's Holdings -/
def hl_W (h : Nat → Int32) : List ev_E := [.inr (0, [.ref 1]), .inl (0, 100, .inl h)]
def hl_at (h : Nat → Int32) (p : Int32) : Int32 := if 0 ≤ p ∧ p < 100 then h p.toNatClampNeg else -1
set_option maxRecDepth 20000 in
theorem t_X0_at (h : Nat → Int32) (p : Int32) : ev_A yX0_at mm_X0_at none [.ref 0, .int p] (hl_W h) (fun r w => r = some (.int (hl_at h p)) ∧ w = hl_W h) := by
  refine ev_start ok_X0_at (by decide +kernel) rfl rfl (Nat.le_of_ble_eq_true rfl) ?_
  refine ev_run [] 50 rfl trivial ?_
  refine ev_br rfl rfl (fun h1 => ?_) (fun h1 => ?_)
  · refine ev_run [] 50 rfl trivial ?_
    refine ev_exit ⟨_, _, rfl, ⟨rfl, Or.inl rfl⟩, ⟨?_, rfl⟩, Nat.le_refl _, Nat.le_refl _⟩
    sorry
  · refine ev_run [] 50 rfl trivial ?_
    refine ev_br rfl rfl (fun h2 => ?_) (fun h2 => ?_)
    · refine ev_run [] 50 rfl trivial ?_
      refine ev_exit ⟨_, _, rfl, ⟨rfl, Or.inl rfl⟩, ⟨?_, rfl⟩, Nat.le_refl _, Nat.le_refl _⟩
      sorry
    · refine ev_run [] 50 rfl ?_ ?_
      · sorry
      · refine ev_exit ⟨_, _, rfl, ⟨rfl, Or.inl rfl⟩, ⟨?_, rfl⟩, Nat.le_refl _, Nat.le_refl _⟩
        trace_state
        sorry
