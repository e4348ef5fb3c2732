def s_X0_copyFrom (F : Nat) (u : S_X0) (v : S_X0) : Option S_X0 := some (m_X0_held (va_cpy (a_X0_held v) (a_X0_held u) (0 : Int32).toNatClampNeg (0 : Int32).toNatClampNeg (100 : Int32).toNatClampNeg) u)
set_option maxHeartbeats 4000000 in
set_option maxRecDepth 20000 in
theorem t_X0_copyFrom (F : Nat) (u : S_X0) (v : S_X0) (x : S_X0) (hR : s_X0_copyFrom F u v = some x) : ev_A yX0_copyFrom mm_X0_copyFrom none [.ref 0, .ref 2] (W2_X0 u v) (fun r w => r = none ∧ w = W2_X0 x v) := by
  unfold s_X0_copyFrom at hR
  refine ev_start ok_X0_copyFrom (by decide +kernel) rfl rfl (Nat.le_of_ble_eq_true rfl) ?_
  refine ev_run (cs := []) (pc' := 12) (L' := [some (.ref 0), some (.ref 2)]) (st' := [.int 100, .int 0, .ref 1, .int 0, .ref 3]) (w' := W2_X0 u v) [] 7 (by with_unfolding_all rfl) trivial ?_
  refine ev_cpy (ev_has_in (k := 289) (by decide +kernel)) rfl rfl rfl (by decide) (Nat.le_of_ble_eq_true rfl) ⟨Nat.le_of_ble_eq_true rfl, Nat.le_of_ble_eq_true rfl⟩ ?_
  refine ev_nx (pc' := 15) (st' := []) (w' := W2_X0 (m_X0_held (va_cpy (a_X0_held v) (a_X0_held u) (0 : Int32).toNatClampNeg (0 : Int32).toNatClampNeg (100 : Int32).toNatClampNeg) u) v) rfl rfl (by with_unfolding_all rfl) rfl rfl ?_
  cases hR
  exact ev_exit ⟨_, _, rfl, ⟨rfl, rfl⟩, ⟨rfl, rfl⟩, Nat.le_refl _, Nat.le_refl _⟩

def s_X0_at (F : Nat) (u : S_X0) (v1 : Int32) : Option Int32 := if v1 < 0 then (some ((-1))) else (if 100 ≤ v1 then (some ((-1))) else (if lf_ix v1 100 then (some ((a_X0_held u) v1.toNatClampNeg)) else none))
set_option maxHeartbeats 4000000 in
set_option maxRecDepth 20000 in
theorem t_X0_at (F : Nat) (u : S_X0) (v1 : Int32) (x : Int32) (hR : s_X0_at F u v1 = some x) : ev_A yX0_at mm_X0_at none [.ref 0, .int v1] (W_X0 u) (fun r w => r = some (.int x) ∧ w = W_X0 u) := by
  unfold s_X0_at at hR
  refine ev_start ok_X0_at (by decide +kernel) rfl rfl (Nat.le_of_ble_eq_true rfl) ?_
  refine ev_run (cs := []) (pc' := 1) (L' := [some (.ref 0), some (.int v1)]) (st' := [.int v1]) (w' := W_X0 u) [] 1 (by with_unfolding_all rfl) trivial ?_
  refine ev_br rfl rfl (fun h1 => ?_) (fun h1 => ?_)
  · replace hR := lf_t h1 hR
    refine ev_run (cs := []) (pc' := 20) (L' := [some (.ref 0), some (.int v1)]) (st' := [.int (-1)]) (w' := W_X0 u) [] 1 (by with_unfolding_all rfl) trivial ?_
    cases hR
    exact ev_exit ⟨_, _, rfl, ⟨rfl, Or.inl rfl⟩, ⟨rfl, rfl⟩, Nat.le_refl _, Nat.le_refl _⟩
  · replace hR := lf_f h1 hR
    refine ev_run (cs := []) (pc' := 7) (L' := [some (.ref 0), some (.int v1)]) (st' := [.int 100, .int v1]) (w' := W_X0 u) [] 2 (by with_unfolding_all rfl) trivial ?_
    refine ev_br rfl rfl (fun h2 => ?_) (fun h2 => ?_)
    · replace hR := lf_t h2 hR
      refine ev_run (cs := []) (pc' := 20) (L' := [some (.ref 0), some (.int v1)]) (st' := [.int (-1)]) (w' := W_X0 u) [] 1 (by with_unfolding_all rfl) trivial ?_
      cases hR
      exact ev_exit ⟨_, _, rfl, ⟨rfl, Or.inl rfl⟩, ⟨rfl, rfl⟩, Nat.le_refl _, Nat.le_refl _⟩
    · replace hR := lf_f h2 hR
      obtain ⟨h3, hR⟩ := lf_g hR
      refine ev_run (cs := [lf_ix v1 100]) (pc' := 20) (L' := [some (.ref 0), some (.int v1)]) (st' := [.int ((a_X0_held u) v1.toNatClampNeg)]) (w' := W_X0 u) [] 5 (by with_unfolding_all rfl) (h3) ?_
      cases hR
      exact ev_exit ⟨_, _, rfl, ⟨rfl, Or.inl rfl⟩, ⟨rfl, rfl⟩, Nat.le_refl _, Nat.le_refl _⟩

def s_X0_hold (F : Nat) (u : S_X0) (v1 : Int32) (v2 : Int32) : Option S_X0 := if v1 < 0 then (some (u)) else (if 100 ≤ v1 then (some (u)) else (if lf_ix v1 100 then (some (m_X0_held (upd (a_X0_held u) v1.toNatClampNeg v2) u)) else none))
set_option maxHeartbeats 4000000 in
set_option maxRecDepth 20000 in
theorem t_X0_hold (F : Nat) (u : S_X0) (v1 : Int32) (v2 : Int32) (x : S_X0) (hR : s_X0_hold F u v1 v2 = some x) : ev_A yX0_hold mm_X0_hold none [.ref 0, .int v1, .int v2] (W_X0 u) (fun r w => r = none ∧ w = W_X0 x) := by
  unfold s_X0_hold at hR
  refine ev_start ok_X0_hold (by decide +kernel) rfl rfl (Nat.le_of_ble_eq_true rfl) ?_
  refine ev_run (cs := []) (pc' := 1) (L' := [some (.ref 0), some (.int v1), some (.int v2)]) (st' := [.int v1]) (w' := W_X0 u) [] 1 (by with_unfolding_all rfl) trivial ?_
  refine ev_br rfl rfl (fun h1 => ?_) (fun h1 => ?_)
  · replace hR := lf_t h1 hR
    cases hR
    exact ev_exit ⟨_, _, rfl, ⟨rfl, rfl⟩, ⟨rfl, rfl⟩, Nat.le_refl _, Nat.le_refl _⟩
  · replace hR := lf_f h1 hR
    refine ev_run (cs := []) (pc' := 7) (L' := [some (.ref 0), some (.int v1), some (.int v2)]) (st' := [.int 100, .int v1]) (w' := W_X0 u) [] 2 (by with_unfolding_all rfl) trivial ?_
    refine ev_br rfl rfl (fun h2 => ?_) (fun h2 => ?_)
    · replace hR := lf_t h2 hR
      cases hR
      exact ev_exit ⟨_, _, rfl, ⟨rfl, rfl⟩, ⟨rfl, rfl⟩, Nat.le_refl _, Nat.le_refl _⟩
    · replace hR := lf_f h2 hR
      obtain ⟨h3, hR⟩ := lf_g hR
      refine ev_run (cs := [lf_ix v1 100]) (pc' := 17) (L' := [some (.ref 0), some (.int v1), some (.int v2)]) (st' := []) (w' := W_X0 (m_X0_held (upd (a_X0_held u) v1.toNatClampNeg v2) u)) [] 5 (by with_unfolding_all rfl) (h3) ?_
      cases hR
      exact ev_exit ⟨_, _, rfl, ⟨rfl, rfl⟩, ⟨rfl, rfl⟩, Nat.le_refl _, Nat.le_refl _⟩

def s_X0_taken_l4 (F : Nat) (u : S_X0) : Nat → Int32 → Int32 → Option Int32
  | 0 => fun _ _ => none
  | n + 1 => fun v1 v2 => if 100 ≤ v2 then (some (v1)) else (if lf_ix v2 100 then (if ((a_X0_held u) v2.toNatClampNeg) = (-1) then (s_X0_taken_l4 F u n v1 (v2 + 1)) else (s_X0_taken_l4 F u n (v1 + 1) (v2 + 1))) else none)
theorem e_X0_taken_l4 (F : Nat) (u : S_X0) (n : Nat) (v1 : Int32) (v2 : Int32) : s_X0_taken_l4 F u (n + 1) v1 v2 = if 100 ≤ v2 then (some (v1)) else (if lf_ix v2 100 then (if ((a_X0_held u) v2.toNatClampNeg) = (-1) then (s_X0_taken_l4 F u n v1 (v2 + 1)) else (s_X0_taken_l4 F u n (v1 + 1) (v2 + 1))) else none) := rfl
set_option maxHeartbeats 4000000 in
set_option maxRecDepth 20000 in
theorem t_X0_taken_l4 (F : Nat) (u : S_X0) (x : Int32)  : ∀ (n : Nat) (v1 : Int32) (v2 : Int32), s_X0_taken_l4 F u n v1 v2 = some x → ev_V mm_X0_taken none (ev_XR mm_X0_taken (fun r w => r = some (.int x) ∧ w = W_X0 u)) 4 [some (.ref 0), some (.int v1), some (.int v2)] [] (W_X0 u) 0 0 := by
  intro n
  induction n with
  | zero => intro v1 v2 hR; cases hR
  | succ n hk4 =>
    intro v1 v2 hR
    unfold s_X0_taken_l4 at hR
    refine ev_run (cs := []) (pc' := 7) (L' := [some (.ref 0), some (.int v1), some (.int v2)]) (st' := [.int 100, .int v2]) (w' := W_X0 u) [] 2 (by with_unfolding_all rfl) trivial ?_
    refine ev_br rfl rfl (fun h1 => ?_) (fun h1 => ?_)
    · replace hR := lf_t h1 hR
      refine ev_run (cs := []) (pc' := 30) (L' := [some (.ref 0), some (.int v1), some (.int v2)]) (st' := [.int v1]) (w' := W_X0 u) [] 1 (by with_unfolding_all rfl) trivial ?_
      cases hR
      exact ev_exit ⟨_, _, rfl, ⟨rfl, Or.inl rfl⟩, ⟨rfl, rfl⟩, Nat.le_refl _, Nat.le_refl _⟩
    · replace hR := lf_f h1 hR
      obtain ⟨h2, hR⟩ := lf_g hR
      refine ev_run (cs := [lf_ix v2 100]) (pc' := 17) (L' := [some (.ref 0), some (.int v1), some (.int v2)]) (st' := [.int (-1), .int ((a_X0_held u) v2.toNatClampNeg)]) (w' := W_X0 u) [] 5 (by with_unfolding_all rfl) (h2) ?_
      refine ev_br rfl rfl (fun h3 => ?_) (fun h3 => ?_)
      · replace hR := lf_t h3 hR
        refine ev_run (cs := []) (pc' := 4) (L' := [some (.ref 0), some (.int v1), some (.int (v2 + 1))]) (st' := []) (w' := W_X0 u) [] 2 (by with_unfolding_all rfl) trivial ?_
        exact ev_to2 (hk4 _ _ hR) ⟨rfl, rfl, rfl, trivial⟩ rfl rfl
      · replace hR := lf_f h3 hR
        refine ev_run (cs := []) (pc' := 4) (L' := [some (.ref 0), some (.int (v1 + 1)), some (.int (v2 + 1))]) (st' := []) (w' := W_X0 u) [] 3 (by with_unfolding_all rfl) trivial ?_
        exact ev_to2 (hk4 _ _ hR) ⟨rfl, rfl, rfl, trivial⟩ rfl rfl

def s_X0_taken (F : Nat) (u : S_X0) : Option Int32 := s_X0_taken_l4 F u F 0 0
set_option maxHeartbeats 4000000 in
set_option maxRecDepth 20000 in
theorem t_X0_taken (F : Nat) (u : S_X0) (x : Int32) (hR : s_X0_taken F u = some x) : ev_A yX0_taken mm_X0_taken none [.ref 0] (W_X0 u) (fun r w => r = some (.int x) ∧ w = W_X0 u) := by
  unfold s_X0_taken at hR
  refine ev_start ok_X0_taken (by decide +kernel) rfl rfl (Nat.le_of_ble_eq_true rfl) ?_
  refine ev_run (cs := []) (pc' := 4) (L' := [some (.ref 0), some (.int 0), some (.int 0)]) (st' := []) (w' := W_X0 u) [] 4 (by with_unfolding_all rfl) trivial ?_
  exact ev_to2 (t_X0_taken_l4 F u _ F 0 0 hR) ⟨rfl, rfl, rfl, trivial⟩ rfl rfl

def s_X0_truthOf_l4 (F : Nat) (u : S_X0) (v1 : Int32) : Nat → Int32 → Int32 → Option Int32
  | 0 => fun _ _ => none
  | n + 1 => fun v2 v3 => if 100 ≤ v3 then (some (v2)) else (if lf_ix v3 100 then (if ((a_X0_held u) v3.toNatClampNeg) = v1 then (s_X0_truthOf_l4 F u v1 n (v2 + 1) (v3 + 1)) else (s_X0_truthOf_l4 F u v1 n v2 (v3 + 1))) else none)
theorem e_X0_truthOf_l4 (F : Nat) (u : S_X0) (v1 : Int32) (n : Nat) (v2 : Int32) (v3 : Int32) : s_X0_truthOf_l4 F u v1 (n + 1) v2 v3 = if 100 ≤ v3 then (some (v2)) else (if lf_ix v3 100 then (if ((a_X0_held u) v3.toNatClampNeg) = v1 then (s_X0_truthOf_l4 F u v1 n (v2 + 1) (v3 + 1)) else (s_X0_truthOf_l4 F u v1 n v2 (v3 + 1))) else none) := rfl
set_option maxHeartbeats 4000000 in
set_option maxRecDepth 20000 in
theorem t_X0_truthOf_l4 (F : Nat) (u : S_X0) (v1 : Int32) (x : Int32)  : ∀ (n : Nat) (v2 : Int32) (v3 : Int32), s_X0_truthOf_l4 F u v1 n v2 v3 = some x → ev_V mm_X0_truthOf none (ev_XR mm_X0_truthOf (fun r w => r = some (.int x) ∧ w = W_X0 u)) 4 [some (.ref 0), some (.int v1), some (.int v2), some (.int v3)] [] (W_X0 u) 0 0 := by
  intro n
  induction n with
  | zero => intro v2 v3 hR; cases hR
  | succ n hk4 =>
    intro v2 v3 hR
    unfold s_X0_truthOf_l4 at hR
    refine ev_run (cs := []) (pc' := 7) (L' := [some (.ref 0), some (.int v1), some (.int v2), some (.int v3)]) (st' := [.int 100, .int v3]) (w' := W_X0 u) [] 2 (by with_unfolding_all rfl) trivial ?_
    refine ev_br rfl rfl (fun h1 => ?_) (fun h1 => ?_)
    · replace hR := lf_t h1 hR
      refine ev_run (cs := []) (pc' := 30) (L' := [some (.ref 0), some (.int v1), some (.int v2), some (.int v3)]) (st' := [.int v2]) (w' := W_X0 u) [] 1 (by with_unfolding_all rfl) trivial ?_
      cases hR
      exact ev_exit ⟨_, _, rfl, ⟨rfl, Or.inl rfl⟩, ⟨rfl, rfl⟩, Nat.le_refl _, Nat.le_refl _⟩
    · replace hR := lf_f h1 hR
      obtain ⟨h2, hR⟩ := lf_g hR
      refine ev_run (cs := [lf_ix v3 100]) (pc' := 17) (L' := [some (.ref 0), some (.int v1), some (.int v2), some (.int v3)]) (st' := [.int v1, .int ((a_X0_held u) v3.toNatClampNeg)]) (w' := W_X0 u) [] 5 (by with_unfolding_all rfl) (h2) ?_
      refine ev_br rfl rfl (fun h3 => ?_) (fun h3 => ?_)
      · replace hR := lf_f h3 hR
        refine ev_run (cs := []) (pc' := 4) (L' := [some (.ref 0), some (.int v1), some (.int v2), some (.int (v3 + 1))]) (st' := []) (w' := W_X0 u) [] 2 (by with_unfolding_all rfl) trivial ?_
        exact ev_to2 (hk4 _ _ hR) ⟨rfl, rfl, rfl, rfl, trivial⟩ rfl rfl
      · replace hR := lf_t h3 hR
        refine ev_run (cs := []) (pc' := 4) (L' := [some (.ref 0), some (.int v1), some (.int (v2 + 1)), some (.int (v3 + 1))]) (st' := []) (w' := W_X0 u) [] 3 (by with_unfolding_all rfl) trivial ?_
        exact ev_to2 (hk4 _ _ hR) ⟨rfl, rfl, rfl, rfl, trivial⟩ rfl rfl

def s_X0_truthOf (F : Nat) (u : S_X0) (v1 : Int32) : Option Int32 := s_X0_truthOf_l4 F u v1 F 0 0
set_option maxHeartbeats 4000000 in
set_option maxRecDepth 20000 in
theorem t_X0_truthOf (F : Nat) (u : S_X0) (v1 : Int32) (x : Int32) (hR : s_X0_truthOf F u v1 = some x) : ev_A yX0_truthOf mm_X0_truthOf none [.ref 0, .int v1] (W_X0 u) (fun r w => r = some (.int x) ∧ w = W_X0 u) := by
  unfold s_X0_truthOf at hR
  refine ev_start ok_X0_truthOf (by decide +kernel) rfl rfl (Nat.le_of_ble_eq_true rfl) ?_
  refine ev_run (cs := []) (pc' := 4) (L' := [some (.ref 0), some (.int v1), some (.int 0), some (.int 0)]) (st' := []) (w' := W_X0 u) [] 4 (by with_unfolding_all rfl) trivial ?_
  exact ev_to2 (t_X0_truthOf_l4 F u v1 _ F 0 0 hR) ⟨rfl, rfl, rfl, rfl, trivial⟩ rfl rfl

def s_X0_slotsThatHold_l5 (F : Nat) (u : S_X0) (v1 : Int32) (v2 : Int32) : Nat → Int32 → Int32 → Option Int32
  | 0 => fun _ _ => none
  | n + 1 => fun v3 v4 => if 100 ≤ v4 then (some (v3)) else (if lf_ix v4 100 then (if ((a_X0_held u) v4.toNatClampNeg) = v1 then (if (st_in v2 ((v4 - 4) / 4)) then (s_X0_slotsThatHold_l5 F u v1 v2 n (v3 + 1) (v4 + 1)) else (s_X0_slotsThatHold_l5 F u v1 v2 n v3 (v4 + 1))) else (s_X0_slotsThatHold_l5 F u v1 v2 n v3 (v4 + 1))) else none)
theorem e_X0_slotsThatHold_l5 (F : Nat) (u : S_X0) (v1 : Int32) (v2 : Int32) (n : Nat) (v3 : Int32) (v4 : Int32) : s_X0_slotsThatHold_l5 F u v1 v2 (n + 1) v3 v4 = if 100 ≤ v4 then (some (v3)) else (if lf_ix v4 100 then (if ((a_X0_held u) v4.toNatClampNeg) = v1 then (if (st_in v2 ((v4 - 4) / 4)) then (s_X0_slotsThatHold_l5 F u v1 v2 n (v3 + 1) (v4 + 1)) else (s_X0_slotsThatHold_l5 F u v1 v2 n v3 (v4 + 1))) else (s_X0_slotsThatHold_l5 F u v1 v2 n v3 (v4 + 1))) else none) := rfl
set_option maxHeartbeats 4000000 in
set_option maxRecDepth 20000 in
theorem t_X0_slotsThatHold_l5 (F : Nat) (u : S_X0) (v1 : Int32) (v2 : Int32) (x : Int32)  : ∀ (n : Nat) (v3 : Int32) (v4 : Int32), s_X0_slotsThatHold_l5 F u v1 v2 n v3 v4 = some x → ev_V mm_X0_slotsThatHold none (ev_XR mm_X0_slotsThatHold (fun r w => r = some (.int x) ∧ w = W_X0 u)) 5 [some (.ref 0), some (.int v1), some (.int v2), some (.int v3), some (.int v4)] [] (W_X0 u) 0 0 := by
  intro n
  induction n with
  | zero => intro v3 v4 hR; cases hR
  | succ n hk5 =>
    intro v3 v4 hR
    unfold s_X0_slotsThatHold_l5 at hR
    refine ev_run (cs := []) (pc' := 9) (L' := [some (.ref 0), some (.int v1), some (.int v2), some (.int v3), some (.int v4)]) (st' := [.int 100, .int v4]) (w' := W_X0 u) [] 2 (by with_unfolding_all rfl) trivial ?_
    refine ev_br rfl rfl (fun h1 => ?_) (fun h1 => ?_)
    · replace hR := lf_t h1 hR
      refine ev_run (cs := []) (pc' := 46) (L' := [some (.ref 0), some (.int v1), some (.int v2), some (.int v3), some (.int v4)]) (st' := [.int v3]) (w' := W_X0 u) [] 1 (by with_unfolding_all rfl) trivial ?_
      cases hR
      exact ev_exit ⟨_, _, rfl, ⟨rfl, Or.inl rfl⟩, ⟨rfl, rfl⟩, Nat.le_refl _, Nat.le_refl _⟩
    · replace hR := lf_f h1 hR
      obtain ⟨h2, hR⟩ := lf_g hR
      refine ev_run (cs := [lf_ix v4 100]) (pc' := 20) (L' := [some (.ref 0), some (.int v1), some (.int v2), some (.int v3), some (.int v4)]) (st' := [.int v1, .int ((a_X0_held u) v4.toNatClampNeg)]) (w' := W_X0 u) [] 5 (by with_unfolding_all rfl) (h2) ?_
      refine ev_br rfl rfl (fun h3 => ?_) (fun h3 => ?_)
      · replace hR := lf_f h3 hR
        refine ev_run (cs := []) (pc' := 5) (L' := [some (.ref 0), some (.int v1), some (.int v2), some (.int v3), some (.int (v4 + 1))]) (st' := []) (w' := W_X0 u) [] 2 (by with_unfolding_all rfl) trivial ?_
        exact ev_to2 (hk5 _ _ hR) ⟨rfl, rfl, rfl, rfl, rfl, trivial⟩ rfl rfl
      · replace hR := lf_t h3 hR
        refine ev_run (cs := [¬ (4 : Int32) = 0]) (pc' := 30) (L' := [some (.ref 0), some (.int v1), some (.int v2), some (.int v3), some (.int v4)]) (st' := [.int ((v4 - 4) / 4), .int v2]) (w' := W_X0 u) [] 6 (by with_unfolding_all rfl) (by show ¬ _; decide) ?_
        refine ev_callS1 0 (t_X4_isIn v2 ((v4 - 4) / 4)) cs_X4_isIn ml_X0_21 rfl rfl rfl (Nat.le_of_ble_eq_true rfl) (by with_unfolding_all rfl) (Nat.le_of_ble_eq_true rfl) ⟨Nat.le_of_ble_eq_true rfl, Nat.le_of_ble_eq_true rfl⟩ ⟨Nat.le_refl _, Nat.le_refl _⟩ ?_ ?_
        · rintro r w ⟨rfl, rfl⟩; rfl
        rintro r w ⟨rfl, rfl⟩
        refine ev_nx (pc' := 33) (st' := [.int (ev_b (st_in v2 ((v4 - 4) / 4)))]) (w' := W_X0 u) rfl rfl (by with_unfolding_all rfl) rfl rfl ?_
        refine ev_br rfl rfl (fun h4 => ?_) (fun h4 => ?_)
        · replace hR := lf_z0 h4 hR
          refine ev_run (cs := []) (pc' := 5) (L' := [some (.ref 0), some (.int v1), some (.int v2), some (.int v3), some (.int (v4 + 1))]) (st' := []) (w' := W_X0 u) [] 2 (by with_unfolding_all rfl) trivial ?_
          exact ev_to2 (hk5 _ _ hR) ⟨rfl, rfl, rfl, rfl, rfl, trivial⟩ rfl rfl
        · replace hR := lf_z1 h4 hR
          refine ev_run (cs := []) (pc' := 5) (L' := [some (.ref 0), some (.int v1), some (.int v2), some (.int (v3 + 1)), some (.int (v4 + 1))]) (st' := []) (w' := W_X0 u) [] 3 (by with_unfolding_all rfl) trivial ?_
          exact ev_to2 (hk5 _ _ hR) ⟨rfl, rfl, rfl, rfl, rfl, trivial⟩ rfl rfl

def s_X0_slotsThatHold (F : Nat) (u : S_X0) (v1 : Int32) (v2 : Int32) : Option Int32 := s_X0_slotsThatHold_l5 F u v1 v2 F 0 4
set_option maxHeartbeats 4000000 in
set_option maxRecDepth 20000 in
theorem t_X0_slotsThatHold (F : Nat) (u : S_X0) (v1 : Int32) (v2 : Int32) (x : Int32) (hR : s_X0_slotsThatHold F u v1 v2 = some x) : ev_A yX0_slotsThatHold mm_X0_slotsThatHold none [.ref 0, .int v1, .int v2] (W_X0 u) (fun r w => r = some (.int x) ∧ w = W_X0 u) := by
  unfold s_X0_slotsThatHold at hR
  refine ev_start ok_X0_slotsThatHold (by decide +kernel) rfl rfl (Nat.le_of_ble_eq_true rfl) ?_
  refine ev_run (cs := []) (pc' := 5) (L' := [some (.ref 0), some (.int v1), some (.int v2), some (.int 0), some (.int 4)]) (st' := []) (w' := W_X0 u) [] 4 (by with_unfolding_all rfl) trivial ?_
  exact ev_to2 (t_X0_slotsThatHold_l5 F u v1 v2 _ F 0 4 hR) ⟨rfl, rfl, rfl, rfl, rfl, trivial⟩ rfl rfl

def s_X0_letGo_l5 (F : Nat) (v1 : Int32) (v2 : Int32) : Nat → S_X0 → Int32 → Int32 → Option (Bool × S_X0)
  | 0 => fun _ _ _ => none
  | n + 1 => fun u v3 v4 => if 100 ≤ v4 then (if v3 = 0 then some (false, u) else if v3 = 1 then some (true, u) else none) else (if lf_ix v4 100 then (if ((a_X0_held u) v4.toNatClampNeg) = v1 then (if lf_ix v4 100 then (if v3 = 0 then (if v4 < 4 then (s_X0_letGo_l5 F v1 v2 n (m_X0_held (upd (a_X0_held u) v4.toNatClampNeg (-1)) u) 1 (v4 + 1)) else (if (st_in v2 ((v4 - 4) / 4)) then (s_X0_letGo_l5 F v1 v2 n (m_X0_held (upd (a_X0_held u) v4.toNatClampNeg (-1)) u) 0 (v4 + 1)) else (s_X0_letGo_l5 F v1 v2 n (m_X0_held (upd (a_X0_held u) v4.toNatClampNeg (-1)) u) 1 (v4 + 1)))) else (s_X0_letGo_l5 F v1 v2 n (m_X0_held (upd (a_X0_held u) v4.toNatClampNeg (-1)) u) 1 (v4 + 1))) else none) else (s_X0_letGo_l5 F v1 v2 n u v3 (v4 + 1))) else none)
theorem e_X0_letGo_l5 (F : Nat) (v1 : Int32) (v2 : Int32) (n : Nat) (u : S_X0) (v3 : Int32) (v4 : Int32) : s_X0_letGo_l5 F v1 v2 (n + 1) u v3 v4 = if 100 ≤ v4 then (if v3 = 0 then some (false, u) else if v3 = 1 then some (true, u) else none) else (if lf_ix v4 100 then (if ((a_X0_held u) v4.toNatClampNeg) = v1 then (if lf_ix v4 100 then (if v3 = 0 then (if v4 < 4 then (s_X0_letGo_l5 F v1 v2 n (m_X0_held (upd (a_X0_held u) v4.toNatClampNeg (-1)) u) 1 (v4 + 1)) else (if (st_in v2 ((v4 - 4) / 4)) then (s_X0_letGo_l5 F v1 v2 n (m_X0_held (upd (a_X0_held u) v4.toNatClampNeg (-1)) u) 0 (v4 + 1)) else (s_X0_letGo_l5 F v1 v2 n (m_X0_held (upd (a_X0_held u) v4.toNatClampNeg (-1)) u) 1 (v4 + 1)))) else (s_X0_letGo_l5 F v1 v2 n (m_X0_held (upd (a_X0_held u) v4.toNatClampNeg (-1)) u) 1 (v4 + 1))) else none) else (s_X0_letGo_l5 F v1 v2 n u v3 (v4 + 1))) else none) := rfl
set_option maxHeartbeats 4000000 in
set_option maxRecDepth 20000 in
theorem t_X0_letGo_l5 (F : Nat) (v1 : Int32) (v2 : Int32) (x : (Bool × S_X0))  : ∀ (n : Nat) (u : S_X0) (v3 : Int32) (v4 : Int32), s_X0_letGo_l5 F v1 v2 n u v3 v4 = some x → ev_V mm_X0_letGo none (ev_XR mm_X0_letGo (fun r w => r = some (.int (ev_b x.1)) ∧ w = W_X0 x.2)) 5 [some (.ref 0), some (.int v1), some (.int v2), some (.int v3), some (.int v4)] [] (W_X0 u) 0 0 := by
  intro n
  induction n with
  | zero => intro u v3 v4 hR; cases hR
  | succ n hk5 =>
    intro u v3 v4 hR
    unfold s_X0_letGo_l5 at hR
    refine ev_run (cs := []) (pc' := 9) (L' := [some (.ref 0), some (.int v1), some (.int v2), some (.int v3), some (.int v4)]) (st' := [.int 100, .int v4]) (w' := W_X0 u) [] 2 (by with_unfolding_all rfl) trivial ?_
    refine ev_br rfl rfl (fun h1 => ?_) (fun h1 => ?_)
    · replace hR := lf_t h1 hR
      refine ev_run (cs := []) (pc' := 67) (L' := [some (.ref 0), some (.int v1), some (.int v2), some (.int v3), some (.int v4)]) (st' := [.int v3]) (w' := W_X0 u) [] 1 (by with_unfolding_all rfl) trivial ?_
      by_cases h0 : v3 = 0
      · replace hR := lf_t h0 hR
        cases hR
        exact ev_lit h0 (ev_exit ⟨_, _, rfl, ⟨rfl, Or.inr ⟨rfl, rfl⟩⟩, ⟨rfl, rfl⟩, Nat.le_refl _, Nat.le_refl _⟩)
      replace hR := lf_f h0 hR
      by_cases h1 : v3 = 1
      · replace hR := lf_t h1 hR
        cases hR
        exact ev_lit h1 (ev_exit ⟨_, _, rfl, ⟨rfl, Or.inr ⟨rfl, rfl⟩⟩, ⟨rfl, rfl⟩, Nat.le_refl _, Nat.le_refl _⟩)
      exact absurd (lf_f h1 hR) (by intro h; cases h)
    · replace hR := lf_f h1 hR
      obtain ⟨h2, hR⟩ := lf_g hR
      refine ev_run (cs := [lf_ix v4 100]) (pc' := 20) (L' := [some (.ref 0), some (.int v1), some (.int v2), some (.int v3), some (.int v4)]) (st' := [.int v1, .int ((a_X0_held u) v4.toNatClampNeg)]) (w' := W_X0 u) [] 5 (by with_unfolding_all rfl) (h2) ?_
      refine ev_br rfl rfl (fun h3 => ?_) (fun h3 => ?_)
      · replace hR := lf_f h3 hR
        refine ev_run (cs := []) (pc' := 5) (L' := [some (.ref 0), some (.int v1), some (.int v2), some (.int v3), some (.int (v4 + 1))]) (st' := []) (w' := W_X0 u) [] 2 (by with_unfolding_all rfl) trivial ?_
        exact ev_to2 (hk5 _ _ _ hR) ⟨rfl, rfl, rfl, rfl, rfl, trivial⟩ rfl rfl
      · replace hR := lf_t h3 hR
        obtain ⟨h4, hR⟩ := lf_g hR
        refine ev_run (cs := [lf_ix v4 100]) (pc' := 32) (L' := [some (.ref 0), some (.int v1), some (.int v2), some (.int v3), some (.int v4)]) (st' := [.int v3]) (w' := W_X0 (m_X0_held (upd (a_X0_held u) v4.toNatClampNeg (-1)) u)) [] 6 (by with_unfolding_all rfl) (h4) ?_
        refine ev_br rfl rfl (fun h5 => ?_) (fun h5 => ?_)
        · replace hR := lf_f h5 hR
          refine ev_run (cs := []) (pc' := 5) (L' := [some (.ref 0), some (.int v1), some (.int v2), some (.int 1), some (.int (v4 + 1))]) (st' := []) (w' := W_X0 (m_X0_held (upd (a_X0_held u) v4.toNatClampNeg (-1)) u)) [] 5 (by with_unfolding_all rfl) trivial ?_
          exact ev_to2 (hk5 _ _ _ hR) ⟨rfl, rfl, rfl, rfl, rfl, trivial⟩ rfl rfl
        · replace hR := lf_t h5 hR
          refine ev_run (cs := []) (pc' := 38) (L' := [some (.ref 0), some (.int v1), some (.int v2), some (.int v3), some (.int v4)]) (st' := [.int 4, .int v4]) (w' := W_X0 (m_X0_held (upd (a_X0_held u) v4.toNatClampNeg (-1)) u)) [] 2 (by with_unfolding_all rfl) trivial ?_
          refine ev_br rfl rfl (fun h6 => ?_) (fun h6 => ?_)
          · replace hR := lf_t h6 hR
            refine ev_run (cs := []) (pc' := 5) (L' := [some (.ref 0), some (.int v1), some (.int v2), some (.int 1), some (.int (v4 + 1))]) (st' := []) (w' := W_X0 (m_X0_held (upd (a_X0_held u) v4.toNatClampNeg (-1)) u)) [] 5 (by with_unfolding_all rfl) trivial ?_
            exact ev_to2 (hk5 _ _ _ hR) ⟨rfl, rfl, rfl, rfl, rfl, trivial⟩ rfl rfl
          · replace hR := lf_f h6 hR
            refine ev_run (cs := [¬ (4 : Int32) = 0]) (pc' := 48) (L' := [some (.ref 0), some (.int v1), some (.int v2), some (.int v3), some (.int v4)]) (st' := [.int ((v4 - 4) / 4), .int v2]) (w' := W_X0 (m_X0_held (upd (a_X0_held u) v4.toNatClampNeg (-1)) u)) [] 6 (by with_unfolding_all rfl) (by show ¬ _; decide) ?_
            refine ev_callS1 0 (t_X4_isIn v2 ((v4 - 4) / 4)) cs_X4_isIn ml_X0_21 rfl rfl rfl (Nat.le_of_ble_eq_true rfl) (by with_unfolding_all rfl) (Nat.le_of_ble_eq_true rfl) ⟨Nat.le_of_ble_eq_true rfl, Nat.le_of_ble_eq_true rfl⟩ ⟨Nat.le_refl _, Nat.le_refl _⟩ ?_ ?_
            · rintro r w ⟨rfl, rfl⟩; rfl
            rintro r w ⟨rfl, rfl⟩
            refine ev_nx (pc' := 51) (st' := [.int (ev_b (st_in v2 ((v4 - 4) / 4)))]) (w' := W_X0 (m_X0_held (upd (a_X0_held u) v4.toNatClampNeg (-1)) u)) rfl rfl (by with_unfolding_all rfl) rfl rfl ?_
            refine ev_br rfl rfl (fun h7 => ?_) (fun h7 => ?_)
            · replace hR := lf_z1 h7 hR
              refine ev_run (cs := []) (pc' := 5) (L' := [some (.ref 0), some (.int v1), some (.int v2), some (.int 0), some (.int (v4 + 1))]) (st' := []) (w' := W_X0 (m_X0_held (upd (a_X0_held u) v4.toNatClampNeg (-1)) u)) [] 4 (by with_unfolding_all rfl) trivial ?_
              exact ev_to2 (hk5 _ _ _ hR) ⟨rfl, rfl, rfl, rfl, rfl, trivial⟩ rfl rfl
            · replace hR := lf_z0 h7 hR
              refine ev_run (cs := []) (pc' := 5) (L' := [some (.ref 0), some (.int v1), some (.int v2), some (.int 1), some (.int (v4 + 1))]) (st' := []) (w' := W_X0 (m_X0_held (upd (a_X0_held u) v4.toNatClampNeg (-1)) u)) [] 5 (by with_unfolding_all rfl) trivial ?_
              exact ev_to2 (hk5 _ _ _ hR) ⟨rfl, rfl, rfl, rfl, rfl, trivial⟩ rfl rfl

def s_X0_letGo (F : Nat) (u : S_X0) (v1 : Int32) (v2 : Int32) : Option (Bool × S_X0) := s_X0_letGo_l5 F v1 v2 F u 0 0
set_option maxHeartbeats 4000000 in
set_option maxRecDepth 20000 in
theorem t_X0_letGo (F : Nat) (u : S_X0) (v1 : Int32) (v2 : Int32) (x : (Bool × S_X0)) (hR : s_X0_letGo F u v1 v2 = some x) : ev_A yX0_letGo mm_X0_letGo none [.ref 0, .int v1, .int v2] (W_X0 u) (fun r w => r = some (.int (ev_b x.1)) ∧ w = W_X0 x.2) := by
  unfold s_X0_letGo at hR
  refine ev_start ok_X0_letGo (by decide +kernel) rfl rfl (Nat.le_of_ble_eq_true rfl) ?_
  refine ev_run (cs := []) (pc' := 5) (L' := [some (.ref 0), some (.int v1), some (.int v2), some (.int 0), some (.int 0)]) (st' := []) (w' := W_X0 u) [] 4 (by with_unfolding_all rfl) trivial ?_
  exact ev_to2 (t_X0_letGo_l5 F v1 v2 _ F u 0 0 hR) ⟨rfl, rfl, rfl, rfl, rfl, trivial⟩ rfl rfl

def s_X0_heldAmong_l6 (F : Nat) (u : S_X0) (v1 : Int32) (v2 : Int32) (v3 : Int32) : Nat → Int32 → Int32 → Option Int32
  | 0 => fun _ _ => none
  | n + 1 => fun v4 v5 => if v5 < 0 then (some (v4)) else (if (v1 + v2) ≤ v5 then (some (v4)) else (if 100 ≤ v5 then (some (v4)) else (if v5 = v3 then (s_X0_heldAmong_l6 F u v1 v2 v3 n v4 (v5 + 1)) else (if lf_ix v5 100 then (if ((a_X0_held u) v5.toNatClampNeg) = (-1) then (s_X0_heldAmong_l6 F u v1 v2 v3 n v4 (v5 + 1)) else (if lf_ix v5 100 then (s_X0_heldAmong_l6 F u v1 v2 v3 n (v4 ||| (1 <<< (((a_X0_held u) v5.toNatClampNeg) &&& 31))) (v5 + 1)) else none)) else none))))
theorem e_X0_heldAmong_l6 (F : Nat) (u : S_X0) (v1 : Int32) (v2 : Int32) (v3 : Int32) (n : Nat) (v4 : Int32) (v5 : Int32) : s_X0_heldAmong_l6 F u v1 v2 v3 (n + 1) v4 v5 = if v5 < 0 then (some (v4)) else (if (v1 + v2) ≤ v5 then (some (v4)) else (if 100 ≤ v5 then (some (v4)) else (if v5 = v3 then (s_X0_heldAmong_l6 F u v1 v2 v3 n v4 (v5 + 1)) else (if lf_ix v5 100 then (if ((a_X0_held u) v5.toNatClampNeg) = (-1) then (s_X0_heldAmong_l6 F u v1 v2 v3 n v4 (v5 + 1)) else (if lf_ix v5 100 then (s_X0_heldAmong_l6 F u v1 v2 v3 n (v4 ||| (1 <<< (((a_X0_held u) v5.toNatClampNeg) &&& 31))) (v5 + 1)) else none)) else none)))) := rfl
set_option maxHeartbeats 4000000 in
set_option maxRecDepth 20000 in
theorem t_X0_heldAmong_l6 (F : Nat) (u : S_X0) (v1 : Int32) (v2 : Int32) (v3 : Int32) (x : Int32)  : ∀ (n : Nat) (v4 : Int32) (v5 : Int32), s_X0_heldAmong_l6 F u v1 v2 v3 n v4 v5 = some x → ev_V mm_X0_heldAmong none (ev_XR mm_X0_heldAmong (fun r w => r = some (.int x) ∧ w = W_X0 u)) 6 [some (.ref 0), some (.int v1), some (.int v2), some (.int v3), some (.int v4), some (.int v5)] [] (W_X0 u) 0 0 := by
  intro n
  induction n with
  | zero => intro v4 v5 hR; cases hR
  | succ n hk6 =>
    intro v4 v5 hR
    unfold s_X0_heldAmong_l6 at hR
    refine ev_run (cs := []) (pc' := 8) (L' := [some (.ref 0), some (.int v1), some (.int v2), some (.int v3), some (.int v4), some (.int v5)]) (st' := [.int v5]) (w' := W_X0 u) [] 1 (by with_unfolding_all rfl) trivial ?_
    refine ev_br rfl rfl (fun h1 => ?_) (fun h1 => ?_)
    · replace hR := lf_t h1 hR
      refine ev_run (cs := []) (pc' := 65) (L' := [some (.ref 0), some (.int v1), some (.int v2), some (.int v3), some (.int v4), some (.int v5)]) (st' := [.int v4]) (w' := W_X0 u) [] 1 (by with_unfolding_all rfl) trivial ?_
      cases hR
      exact ev_exit ⟨_, _, rfl, ⟨rfl, Or.inl rfl⟩, ⟨rfl, rfl⟩, Nat.le_refl _, Nat.le_refl _⟩
    · replace hR := lf_f h1 hR
      refine ev_run (cs := []) (pc' := 16) (L' := [some (.ref 0), some (.int v1), some (.int v2), some (.int v3), some (.int v4), some (.int v5)]) (st' := [.int (v1 + v2), .int v5]) (w' := W_X0 u) [] 4 (by with_unfolding_all rfl) trivial ?_
      refine ev_br rfl rfl (fun h2 => ?_) (fun h2 => ?_)
      · replace hR := lf_t h2 hR
        refine ev_run (cs := []) (pc' := 65) (L' := [some (.ref 0), some (.int v1), some (.int v2), some (.int v3), some (.int v4), some (.int v5)]) (st' := [.int v4]) (w' := W_X0 u) [] 1 (by with_unfolding_all rfl) trivial ?_
        cases hR
        exact ev_exit ⟨_, _, rfl, ⟨rfl, Or.inl rfl⟩, ⟨rfl, rfl⟩, Nat.le_refl _, Nat.le_refl _⟩
      · replace hR := lf_f h2 hR
        refine ev_run (cs := []) (pc' := 23) (L' := [some (.ref 0), some (.int v1), some (.int v2), some (.int v3), some (.int v4), some (.int v5)]) (st' := [.int 100, .int v5]) (w' := W_X0 u) [] 2 (by with_unfolding_all rfl) trivial ?_
        refine ev_br rfl rfl (fun h3 => ?_) (fun h3 => ?_)
        · replace hR := lf_t h3 hR
          refine ev_run (cs := []) (pc' := 65) (L' := [some (.ref 0), some (.int v1), some (.int v2), some (.int v3), some (.int v4), some (.int v5)]) (st' := [.int v4]) (w' := W_X0 u) [] 1 (by with_unfolding_all rfl) trivial ?_
          cases hR
          exact ev_exit ⟨_, _, rfl, ⟨rfl, Or.inl rfl⟩, ⟨rfl, rfl⟩, Nat.le_refl _, Nat.le_refl _⟩
        · replace hR := lf_f h3 hR
          refine ev_run (cs := []) (pc' := 29) (L' := [some (.ref 0), some (.int v1), some (.int v2), some (.int v3), some (.int v4), some (.int v5)]) (st' := [.int v3, .int v5]) (w' := W_X0 u) [] 2 (by with_unfolding_all rfl) trivial ?_
          refine ev_br rfl rfl (fun h4 => ?_) (fun h4 => ?_)
          · replace hR := lf_t h4 hR
            refine ev_run (cs := []) (pc' := 6) (L' := [some (.ref 0), some (.int v1), some (.int v2), some (.int v3), some (.int v4), some (.int (v5 + 1))]) (st' := []) (w' := W_X0 u) [] 2 (by with_unfolding_all rfl) trivial ?_
            exact ev_to2 (hk6 _ _ hR) ⟨rfl, rfl, rfl, rfl, rfl, rfl, trivial⟩ rfl rfl
          · replace hR := lf_f h4 hR
            obtain ⟨h5, hR⟩ := lf_g hR
            refine ev_run (cs := [lf_ix v5 100]) (pc' := 40) (L' := [some (.ref 0), some (.int v1), some (.int v2), some (.int v3), some (.int v4), some (.int v5)]) (st' := [.int (-1), .int ((a_X0_held u) v5.toNatClampNeg)]) (w' := W_X0 u) [] 5 (by with_unfolding_all rfl) (h5) ?_
            refine ev_br rfl rfl (fun h6 => ?_) (fun h6 => ?_)
            · replace hR := lf_t h6 hR
              refine ev_run (cs := []) (pc' := 6) (L' := [some (.ref 0), some (.int v1), some (.int v2), some (.int v3), some (.int v4), some (.int (v5 + 1))]) (st' := []) (w' := W_X0 u) [] 2 (by with_unfolding_all rfl) trivial ?_
              exact ev_to2 (hk6 _ _ hR) ⟨rfl, rfl, rfl, rfl, rfl, rfl, trivial⟩ rfl rfl
            · replace hR := lf_f h6 hR
              obtain ⟨h7, hR⟩ := lf_g hR
              refine ev_run (cs := [lf_ix v5 100]) (pc' := 6) (L' := [some (.ref 0), some (.int v1), some (.int v2), some (.int v3), some (.int (v4 ||| (1 <<< (((a_X0_held u) v5.toNatClampNeg) &&& 31)))), some (.int (v5 + 1))]) (st' := []) (w' := W_X0 u) [] 11 (by with_unfolding_all rfl) (h7) ?_
              exact ev_to2 (hk6 _ _ hR) ⟨rfl, rfl, rfl, rfl, rfl, rfl, trivial⟩ rfl rfl

def s_X0_heldAmong (F : Nat) (u : S_X0) (v1 : Int32) (v2 : Int32) (v3 : Int32) : Option Int32 := s_X0_heldAmong_l6 F u v1 v2 v3 F 0 v1
set_option maxHeartbeats 4000000 in
set_option maxRecDepth 20000 in
theorem t_X0_heldAmong (F : Nat) (u : S_X0) (v1 : Int32) (v2 : Int32) (v3 : Int32) (x : Int32) (hR : s_X0_heldAmong F u v1 v2 v3 = some x) : ev_A yX0_heldAmong mm_X0_heldAmong none [.ref 0, .int v1, .int v2, .int v3] (W_X0 u) (fun r w => r = some (.int x) ∧ w = W_X0 u) := by
  unfold s_X0_heldAmong at hR
  refine ev_start ok_X0_heldAmong (by decide +kernel) rfl rfl (Nat.le_of_ble_eq_true rfl) ?_
  refine ev_run (cs := []) (pc' := 6) (L' := [some (.ref 0), some (.int v1), some (.int v2), some (.int v3), some (.int 0), some (.int v1)]) (st' := []) (w' := W_X0 u) [] 4 (by with_unfolding_all rfl) trivial ?_
  exact ev_to2 (t_X0_heldAmong_l6 F u v1 v2 v3 _ F 0 v1 hR) ⟨rfl, rfl, rfl, rfl, rfl, rfl, trivial⟩ rfl rfl

def s_X0_reachedFrom_l8 (F : Nat) (u : S_X0) (v2 : Int32) : Nat → Int32 → Int32 → Int32 → Option Int32
  | 0 => fun _ _ _ => none
  | n + 1 => fun v3 v4 v5 => if 24 ≤ v5 then (some (v3)) else (if v4 = 0 then (some (v3)) else ((s_X0_heldAmong F u (st_pl (jd_ntz v4) 0) 4 v2).bind fun y1 => (s_X0_reachedFrom_l8 F u v2 n (v3 ||| (y1 &&& (v3 ^^^ (-1)))) ((v4 &&& ((1 <<< ((jd_ntz v4) &&& 31)) ^^^ (-1))) ||| (y1 &&& (v3 ^^^ (-1)))) (v5 + 1))))
theorem e_X0_reachedFrom_l8 (F : Nat) (u : S_X0) (v2 : Int32) (n : Nat) (v3 : Int32) (v4 : Int32) (v5 : Int32) : s_X0_reachedFrom_l8 F u v2 (n + 1) v3 v4 v5 = if 24 ≤ v5 then (some (v3)) else (if v4 = 0 then (some (v3)) else ((s_X0_heldAmong F u (st_pl (jd_ntz v4) 0) 4 v2).bind fun y1 => (s_X0_reachedFrom_l8 F u v2 n (v3 ||| (y1 &&& (v3 ^^^ (-1)))) ((v4 &&& ((1 <<< ((jd_ntz v4) &&& 31)) ^^^ (-1))) ||| (y1 &&& (v3 ^^^ (-1)))) (v5 + 1)))) := rfl
set_option maxHeartbeats 4000000 in
set_option maxRecDepth 20000 in
theorem t_X0_reachedFrom_l8 (F : Nat) (u : S_X0) (v2 : Int32) (x : Int32)  : ∀ (n : Nat) (v3 : Int32) (v4 : Int32) (v5 : Int32), s_X0_reachedFrom_l8 F u v2 n v3 v4 v5 = some x → ev_V mm_X0_reachedFrom none (ev_XR mm_X0_reachedFrom (fun r w => r = some (.int x) ∧ w = W_X0 u)) 8 [some (.ref 0), none, some (.int v2), some (.int v3), some (.int v4), some (.int v5), none, none] [] (W_X0 u) 0 0 := by
  intro n
  induction n with
  | zero => intro v3 v4 v5 hR; cases hR
  | succ n hk8 =>
    intro v3 v4 v5 hR
    unfold s_X0_reachedFrom_l8 at hR
    refine ev_run (cs := []) (pc' := 12) (L' := [some (.ref 0), none, some (.int v2), some (.int v3), some (.int v4), some (.int v5), none, none]) (st' := [.int 24, .int v5]) (w' := W_X0 u) [] 2 (by with_unfolding_all rfl) trivial ?_
    refine ev_br rfl rfl (fun h1 => ?_) (fun h1 => ?_)
    · replace hR := lf_t h1 hR
      refine ev_run (cs := []) (pc' := 71) (L' := [some (.ref 0), none, some (.int v2), some (.int v3), some (.int v4), some (.int v5), none, none]) (st' := [.int v3]) (w' := W_X0 u) [] 1 (by with_unfolding_all rfl) trivial ?_
      cases hR
      exact ev_exit ⟨_, _, rfl, ⟨rfl, Or.inl rfl⟩, ⟨rfl, rfl⟩, Nat.le_refl _, Nat.le_refl _⟩
    · replace hR := lf_f h1 hR
      refine ev_run (cs := []) (pc' := 17) (L' := [some (.ref 0), none, some (.int v2), some (.int v3), some (.int v4), some (.int v5), none, none]) (st' := [.int v4]) (w' := W_X0 u) [] 1 (by with_unfolding_all rfl) trivial ?_
      refine ev_br rfl rfl (fun h2 => ?_) (fun h2 => ?_)
      · replace hR := lf_t h2 hR
        refine ev_run (cs := []) (pc' := 71) (L' := [some (.ref 0), none, some (.int v2), some (.int v3), some (.int v4), some (.int v5), none, none]) (st' := [.int v3]) (w' := W_X0 u) [] 1 (by with_unfolding_all rfl) trivial ?_
        cases hR
        exact ev_exit ⟨_, _, rfl, ⟨rfl, Or.inl rfl⟩, ⟨rfl, rfl⟩, Nat.le_refl _, Nat.le_refl _⟩
      · replace hR := lf_f h2 hR
        refine ev_run (cs := []) (pc' := 22) (L' := [some (.ref 0), none, some (.int v2), some (.int v3), some (.int v4), some (.int v5), none, none]) (st' := [.int v4]) (w' := W_X0 u) [] 1 (by with_unfolding_all rfl) trivial ?_
        refine ev_callS1 0 (t_J6_numberOfTrailingZeros_0f7a4 v4) cs_J6_numberOfTrailingZeros_0f7a4 ml_X0_55 rfl rfl rfl (Nat.le_of_ble_eq_true rfl) (by with_unfolding_all rfl) (Nat.le_of_ble_eq_true rfl) ⟨Nat.le_of_ble_eq_true rfl, Nat.le_of_ble_eq_true rfl⟩ ⟨Nat.le_refl _, Nat.le_refl _⟩ ?_ ?_
        · rintro r w ⟨rfl, rfl⟩; rfl
        rintro r w ⟨rfl, rfl⟩
        refine ev_nx (pc' := 25) (st' := [.int (jd_ntz v4)]) (w' := W_X0 u) rfl rfl (by with_unfolding_all rfl) rfl rfl ?_
        refine ev_run (cs := []) (pc' := 31) (L' := [some (.ref 0), none, some (.int v2), some (.int v3), some (.int v4), some (.int v5), some (.int (jd_ntz v4)), none]) (st' := [.int 0, .int (jd_ntz v4), .ref 0]) (w' := W_X0 u) [] 4 (by with_unfolding_all rfl) trivial ?_
        refine ev_callS1 0 (t_X4_placeOf (jd_ntz v4) 0) cs_X4_placeOf ml_X0_29 rfl rfl rfl (Nat.le_of_ble_eq_true rfl) (by with_unfolding_all rfl) (Nat.le_of_ble_eq_true rfl) ⟨Nat.le_of_ble_eq_true rfl, Nat.le_of_ble_eq_true rfl⟩ ⟨Nat.le_refl _, Nat.le_refl _⟩ ?_ ?_
        · rintro r w ⟨rfl, rfl⟩; rfl
        rintro r w ⟨rfl, rfl⟩
        refine ev_nx (pc' := 34) (st' := [.int (st_pl (jd_ntz v4) 0), .ref 0]) (w' := W_X0 u) rfl rfl (by with_unfolding_all rfl) rfl rfl ?_
        refine ev_run (cs := []) (pc' := 36) (L' := [some (.ref 0), none, some (.int v2), some (.int v3), some (.int v4), some (.int v5), some (.int (jd_ntz v4)), none]) (st' := [.int v2, .int 4, .int (st_pl (jd_ntz v4) 0), .ref 0]) (w' := W_X0 u) [] 2 (by with_unfolding_all rfl) trivial ?_
        obtain ⟨y1, h3, hR⟩ := lf_b hR
        refine ev_callV1 0 (t_X0_heldAmong F u (st_pl (jd_ntz v4) 0) 4 v2 _ h3) cv_X0_heldAmong ml_X0_33 rfl rfl rfl (Nat.le_of_ble_eq_true rfl) (by with_unfolding_all rfl) (Nat.le_of_ble_eq_true rfl) ⟨Nat.le_of_ble_eq_true rfl, Nat.le_of_ble_eq_true rfl⟩ ⟨Nat.le_refl _, Nat.le_refl _⟩ ?_ ?_
        · rintro r w ⟨rfl, rfl⟩; rfl
        rintro r w ⟨rfl, rfl⟩
        refine ev_nx (pc' := 39) (st' := [.int y1]) (w' := W_X0 u) rfl rfl (by with_unfolding_all rfl) rfl rfl ?_
        refine ev_run (cs := []) (pc' := 55) (L' := [some (.ref 0), none, some (.int v2), some (.int (v3 ||| (y1 &&& (v3 ^^^ (-1))))), some (.int v4), some (.int v5), some (.int (jd_ntz v4)), some (.int (y1 &&& (v3 ^^^ (-1))))]) (st' := [.int (jd_ntz v4), .int 1, .int v4]) (w' := W_X0 u) [] 12 (by with_unfolding_all rfl) trivial ?_
        refine ev_run (cs := []) (pc' := 8) (L' := [some (.ref 0), none, some (.int v2), some (.int (v3 ||| (y1 &&& (v3 ^^^ (-1))))), some (.int ((v4 &&& ((1 <<< ((jd_ntz v4) &&& 31)) ^^^ (-1))) ||| (y1 &&& (v3 ^^^ (-1))))), some (.int (v5 + 1)), some (.int (jd_ntz v4)), some (.int (y1 &&& (v3 ^^^ (-1))))]) (st' := []) (w' := W_X0 u) [] 9 (by with_unfolding_all rfl) trivial ?_
        exact ev_to2 (hk8 _ _ _ hR) ⟨rfl, rfl, rfl, rfl, rfl, trivial⟩ rfl rfl

def s_X0_reachedFrom (F : Nat) (u : S_X0) (v1 : Int32) (v2 : Int32) : Option Int32 := s_X0_reachedFrom_l8 F u v2 F v1 v1 0
set_option maxHeartbeats 4000000 in
set_option maxRecDepth 20000 in
theorem t_X0_reachedFrom (F : Nat) (u : S_X0) (v1 : Int32) (v2 : Int32) (x : Int32) (hR : s_X0_reachedFrom F u v1 v2 = some x) : ev_A yX0_reachedFrom mm_X0_reachedFrom none [.ref 0, .int v1, .int v2] (W_X0 u) (fun r w => r = some (.int x) ∧ w = W_X0 u) := by
  unfold s_X0_reachedFrom at hR
  refine ev_start ok_X0_reachedFrom (by decide +kernel) rfl rfl (Nat.le_of_ble_eq_true rfl) ?_
  refine ev_run (cs := []) (pc' := 8) (L' := [some (.ref 0), some (.int v1), some (.int v2), some (.int v1), some (.int v1), some (.int 0), none, none]) (st' := []) (w' := W_X0 u) [] 6 (by with_unfolding_all rfl) trivial ?_
  exact ev_to2 (t_X0_reachedFrom_l8 F u v2 _ F v1 v1 0 hR) ⟨rfl, rfl, rfl, rfl, rfl, trivial⟩ rfl rfl

def s_X0_reachedWithout (F : Nat) (u : S_X0) (v1 : Int32) : Option Int32 := (s_X0_heldAmong F u 0 4 v1).bind fun y1 => ((s_X0_reachedFrom F u y1 v1).bind fun y2 => (some (y2)))
set_option maxHeartbeats 4000000 in
set_option maxRecDepth 20000 in
theorem t_X0_reachedWithout (F : Nat) (u : S_X0) (v1 : Int32) (x : Int32) (hR : s_X0_reachedWithout F u v1 = some x) : ev_A yX0_reachedWithout mm_X0_reachedWithout none [.ref 0, .int v1] (W_X0 u) (fun r w => r = some (.int x) ∧ w = W_X0 u) := by
  unfold s_X0_reachedWithout at hR
  refine ev_start ok_X0_reachedWithout (by decide +kernel) rfl rfl (Nat.le_of_ble_eq_true rfl) ?_
  refine ev_run (cs := []) (pc' := 5) (L' := [some (.ref 0), some (.int v1)]) (st' := [.int v1, .int 4, .int 0, .ref 0, .ref 0]) (w' := W_X0 u) [] 5 (by with_unfolding_all rfl) trivial ?_
  obtain ⟨y1, h1, hR⟩ := lf_b hR
  refine ev_callV1 0 (t_X0_heldAmong F u 0 4 v1 _ h1) cv_X0_heldAmong ml_X0_33 rfl rfl rfl (Nat.le_of_ble_eq_true rfl) (by with_unfolding_all rfl) (Nat.le_of_ble_eq_true rfl) ⟨Nat.le_of_ble_eq_true rfl, Nat.le_of_ble_eq_true rfl⟩ ⟨Nat.le_refl _, Nat.le_refl _⟩ ?_ ?_
  · rintro r w ⟨rfl, rfl⟩; rfl
  rintro r w ⟨rfl, rfl⟩
  refine ev_nx (pc' := 8) (st' := [.int y1, .ref 0]) (w' := W_X0 u) rfl rfl (by with_unfolding_all rfl) rfl rfl ?_
  refine ev_run (cs := []) (pc' := 9) (L' := [some (.ref 0), some (.int v1)]) (st' := [.int v1, .int y1, .ref 0]) (w' := W_X0 u) [] 1 (by with_unfolding_all rfl) trivial ?_
  obtain ⟨y2, h2, hR⟩ := lf_b hR
  refine ev_callV1 0 (t_X0_reachedFrom F u y1 v1 _ h2) cv_X0_reachedFrom ml_X0_37 rfl rfl rfl (Nat.le_of_ble_eq_true rfl) (by with_unfolding_all rfl) (Nat.le_of_ble_eq_true rfl) ⟨Nat.le_of_ble_eq_true rfl, Nat.le_of_ble_eq_true rfl⟩ ⟨Nat.le_refl _, Nat.le_refl _⟩ ?_ ?_
  · rintro r w ⟨rfl, rfl⟩; rfl
  rintro r w ⟨rfl, rfl⟩
  refine ev_nx (pc' := 12) (st' := [.int y2]) (w' := W_X0 u) rfl rfl (by with_unfolding_all rfl) rfl rfl ?_
  cases hR
  exact ev_exit ⟨_, _, rfl, ⟨rfl, Or.inl rfl⟩, ⟨rfl, rfl⟩, Nat.le_refl _, Nat.le_refl _⟩

def s_X0_reached (F : Nat) (u : S_X0) : Option Int32 := (s_X0_reachedWithout F u (-1)).bind fun y1 => (some (y1))
set_option maxHeartbeats 4000000 in
set_option maxRecDepth 20000 in
theorem t_X0_reached (F : Nat) (u : S_X0) (x : Int32) (hR : s_X0_reached F u = some x) : ev_A yX0_reached mm_X0_reached none [.ref 0] (W_X0 u) (fun r w => r = some (.int x) ∧ w = W_X0 u) := by
  unfold s_X0_reached at hR
  refine ev_start ok_X0_reached (by decide +kernel) rfl rfl (Nat.le_of_ble_eq_true rfl) ?_
  refine ev_run (cs := []) (pc' := 2) (L' := [some (.ref 0)]) (st' := [.int (-1), .ref 0]) (w' := W_X0 u) [] 2 (by with_unfolding_all rfl) trivial ?_
  obtain ⟨y1, h1, hR⟩ := lf_b hR
  refine ev_callV1 0 (t_X0_reachedWithout F u (-1) _ h1) cv_X0_reachedWithout ml_X0_25 rfl rfl rfl (Nat.le_of_ble_eq_true rfl) (by with_unfolding_all rfl) (Nat.le_of_ble_eq_true rfl) ⟨Nat.le_of_ble_eq_true rfl, Nat.le_of_ble_eq_true rfl⟩ ⟨Nat.le_refl _, Nat.le_refl _⟩ ?_ ?_
  · rintro r w ⟨rfl, rfl⟩; rfl
  rintro r w ⟨rfl, rfl⟩
  refine ev_nx (pc' := 5) (st' := [.int y1]) (w' := W_X0 u) rfl rfl (by with_unfolding_all rfl) rfl rfl ?_
  cases hR
  exact ev_exit ⟨_, _, rfl, ⟨rfl, Or.inl rfl⟩, ⟨rfl, rfl⟩, Nat.le_refl _, Nat.le_refl _⟩

def s_X0_reachOf (F : Nat) (u : S_X0) (v1 : Int32) : Option Int32 := (s_X0_heldAmong F u (st_pl v1 0) 4 (-1)).bind fun y1 => ((s_X0_reachedFrom F u y1 (-1)).bind fun y2 => (some (y2)))
set_option maxHeartbeats 4000000 in
set_option maxRecDepth 20000 in
theorem t_X0_reachOf (F : Nat) (u : S_X0) (v1 : Int32) (x : Int32) (hR : s_X0_reachOf F u v1 = some x) : ev_A yX0_reachOf mm_X0_reachOf none [.ref 0, .int v1] (W_X0 u) (fun r w => r = some (.int x) ∧ w = W_X0 u) := by
  unfold s_X0_reachOf at hR
  refine ev_start ok_X0_reachOf (by decide +kernel) rfl rfl (Nat.le_of_ble_eq_true rfl) ?_
  refine ev_run (cs := []) (pc' := 4) (L' := [some (.ref 0), some (.int v1)]) (st' := [.int 0, .int v1, .ref 0, .ref 0]) (w' := W_X0 u) [] 4 (by with_unfolding_all rfl) trivial ?_
  refine ev_callS1 0 (t_X4_placeOf v1 0) cs_X4_placeOf ml_X0_29 rfl rfl rfl (Nat.le_of_ble_eq_true rfl) (by with_unfolding_all rfl) (Nat.le_of_ble_eq_true rfl) ⟨Nat.le_of_ble_eq_true rfl, Nat.le_of_ble_eq_true rfl⟩ ⟨Nat.le_refl _, Nat.le_refl _⟩ ?_ ?_
  · rintro r w ⟨rfl, rfl⟩; rfl
  rintro r w ⟨rfl, rfl⟩
  refine ev_nx (pc' := 7) (st' := [.int (st_pl v1 0), .ref 0, .ref 0]) (w' := W_X0 u) rfl rfl (by with_unfolding_all rfl) rfl rfl ?_
  refine ev_run (cs := []) (pc' := 9) (L' := [some (.ref 0), some (.int v1)]) (st' := [.int (-1), .int 4, .int (st_pl v1 0), .ref 0, .ref 0]) (w' := W_X0 u) [] 2 (by with_unfolding_all rfl) trivial ?_
  obtain ⟨y1, h1, hR⟩ := lf_b hR
  refine ev_callV1 0 (t_X0_heldAmong F u (st_pl v1 0) 4 (-1) _ h1) cv_X0_heldAmong ml_X0_33 rfl rfl rfl (Nat.le_of_ble_eq_true rfl) (by with_unfolding_all rfl) (Nat.le_of_ble_eq_true rfl) ⟨Nat.le_of_ble_eq_true rfl, Nat.le_of_ble_eq_true rfl⟩ ⟨Nat.le_refl _, Nat.le_refl _⟩ ?_ ?_
  · rintro r w ⟨rfl, rfl⟩; rfl
  rintro r w ⟨rfl, rfl⟩
  refine ev_nx (pc' := 12) (st' := [.int y1, .ref 0]) (w' := W_X0 u) rfl rfl (by with_unfolding_all rfl) rfl rfl ?_
  refine ev_run (cs := []) (pc' := 13) (L' := [some (.ref 0), some (.int v1)]) (st' := [.int (-1), .int y1, .ref 0]) (w' := W_X0 u) [] 1 (by with_unfolding_all rfl) trivial ?_
  obtain ⟨y2, h2, hR⟩ := lf_b hR
  refine ev_callV1 0 (t_X0_reachedFrom F u y1 (-1) _ h2) cv_X0_reachedFrom ml_X0_37 rfl rfl rfl (Nat.le_of_ble_eq_true rfl) (by with_unfolding_all rfl) (Nat.le_of_ble_eq_true rfl) ⟨Nat.le_of_ble_eq_true rfl, Nat.le_of_ble_eq_true rfl⟩ ⟨Nat.le_refl _, Nat.le_refl _⟩ ?_ ?_
  · rintro r w ⟨rfl, rfl⟩; rfl
  rintro r w ⟨rfl, rfl⟩
  refine ev_nx (pc' := 16) (st' := [.int y2]) (w' := W_X0 u) rfl rfl (by with_unfolding_all rfl) rfl rfl ?_
  cases hR
  exact ev_exit ⟨_, _, rfl, ⟨rfl, Or.inl rfl⟩, ⟨rfl, rfl⟩, Nat.le_refl _, Nat.le_refl _⟩

def s_X0_ringOf_l11 (F : Nat) (u : S_X0) (v1 : Int32) (v2 : Int32) : Nat → Int32 → Int32 → Option Int32
  | 0 => fun _ _ => none
  | n + 1 => fun v3 v4 => if 24 ≤ v4 then (some (v3)) else (if (st_in v2 v4) then ((s_X0_reachOf F u v4).bind fun y1 => (if (st_in y1 v1) then (s_X0_ringOf_l11 F u v1 v2 n (v3 ||| (1 <<< (v4 &&& 31))) (v4 + 1)) else (s_X0_ringOf_l11 F u v1 v2 n v3 (v4 + 1)))) else (s_X0_ringOf_l11 F u v1 v2 n v3 (v4 + 1)))
theorem e_X0_ringOf_l11 (F : Nat) (u : S_X0) (v1 : Int32) (v2 : Int32) (n : Nat) (v3 : Int32) (v4 : Int32) : s_X0_ringOf_l11 F u v1 v2 (n + 1) v3 v4 = if 24 ≤ v4 then (some (v3)) else (if (st_in v2 v4) then ((s_X0_reachOf F u v4).bind fun y1 => (if (st_in y1 v1) then (s_X0_ringOf_l11 F u v1 v2 n (v3 ||| (1 <<< (v4 &&& 31))) (v4 + 1)) else (s_X0_ringOf_l11 F u v1 v2 n v3 (v4 + 1)))) else (s_X0_ringOf_l11 F u v1 v2 n v3 (v4 + 1))) := rfl
set_option maxHeartbeats 4000000 in
set_option maxRecDepth 20000 in
theorem t_X0_ringOf_l11 (F : Nat) (u : S_X0) (v1 : Int32) (v2 : Int32) (x : Int32)  : ∀ (n : Nat) (v3 : Int32) (v4 : Int32), s_X0_ringOf_l11 F u v1 v2 n v3 v4 = some x → ev_V mm_X0_ringOf none (ev_XR mm_X0_ringOf (fun r w => r = some (.int x) ∧ w = W_X0 u)) 11 [some (.ref 0), some (.int v1), some (.int v2), some (.int v3), some (.int v4)] [] (W_X0 u) 0 0 := by
  intro n
  induction n with
  | zero => intro v3 v4 hR; cases hR
  | succ n hk11 =>
    intro v3 v4 hR
    unfold s_X0_ringOf_l11 at hR
    refine ev_run (cs := []) (pc' := 15) (L' := [some (.ref 0), some (.int v1), some (.int v2), some (.int v3), some (.int v4)]) (st' := [.int 24, .int v4]) (w' := W_X0 u) [] 2 (by with_unfolding_all rfl) trivial ?_
    refine ev_br rfl rfl (fun h1 => ?_) (fun h1 => ?_)
    · replace hR := lf_t h1 hR
      refine ev_run (cs := []) (pc' := 54) (L' := [some (.ref 0), some (.int v1), some (.int v2), some (.int v3), some (.int v4)]) (st' := [.int v3]) (w' := W_X0 u) [] 1 (by with_unfolding_all rfl) trivial ?_
      cases hR
      exact ev_exit ⟨_, _, rfl, ⟨rfl, Or.inl rfl⟩, ⟨rfl, rfl⟩, Nat.le_refl _, Nat.le_refl _⟩
    · replace hR := lf_f h1 hR
      refine ev_run (cs := []) (pc' := 21) (L' := [some (.ref 0), some (.int v1), some (.int v2), some (.int v3), some (.int v4)]) (st' := [.int v4, .int v2]) (w' := W_X0 u) [] 2 (by with_unfolding_all rfl) trivial ?_
      refine ev_callS1 0 (t_X4_isIn v2 v4) cs_X4_isIn ml_X0_21 rfl rfl rfl (Nat.le_of_ble_eq_true rfl) (by with_unfolding_all rfl) (Nat.le_of_ble_eq_true rfl) ⟨Nat.le_of_ble_eq_true rfl, Nat.le_of_ble_eq_true rfl⟩ ⟨Nat.le_refl _, Nat.le_refl _⟩ ?_ ?_
      · rintro r w ⟨rfl, rfl⟩; rfl
      rintro r w ⟨rfl, rfl⟩
      refine ev_nx (pc' := 24) (st' := [.int (ev_b (st_in v2 v4))]) (w' := W_X0 u) rfl rfl (by with_unfolding_all rfl) rfl rfl ?_
      refine ev_br rfl rfl (fun h2 => ?_) (fun h2 => ?_)
      · replace hR := lf_z0 h2 hR
        refine ev_run (cs := []) (pc' := 11) (L' := [some (.ref 0), some (.int v1), some (.int v2), some (.int v3), some (.int (v4 + 1))]) (st' := []) (w' := W_X0 u) [] 2 (by with_unfolding_all rfl) trivial ?_
        exact ev_to2 (hk11 _ _ hR) ⟨rfl, rfl, rfl, rfl, rfl, trivial⟩ rfl rfl
      · replace hR := lf_z1 h2 hR
        refine ev_run (cs := []) (pc' := 30) (L' := [some (.ref 0), some (.int v1), some (.int v2), some (.int v3), some (.int v4)]) (st' := [.int v4, .ref 0]) (w' := W_X0 u) [] 2 (by with_unfolding_all rfl) trivial ?_
        obtain ⟨y1, h3, hR⟩ := lf_b hR
        refine ev_callV1 0 (t_X0_reachOf F u v4 _ h3) cv_X0_reachOf ml_X0_40 rfl rfl rfl (Nat.le_of_ble_eq_true rfl) (by with_unfolding_all rfl) (Nat.le_of_ble_eq_true rfl) ⟨Nat.le_of_ble_eq_true rfl, Nat.le_of_ble_eq_true rfl⟩ ⟨Nat.le_refl _, Nat.le_refl _⟩ ?_ ?_
        · rintro r w ⟨rfl, rfl⟩; rfl
        rintro r w ⟨rfl, rfl⟩
        refine ev_nx (pc' := 33) (st' := [.int y1]) (w' := W_X0 u) rfl rfl (by with_unfolding_all rfl) rfl rfl ?_
        refine ev_run (cs := []) (pc' := 34) (L' := [some (.ref 0), some (.int v1), some (.int v2), some (.int v3), some (.int v4)]) (st' := [.int v1, .int y1]) (w' := W_X0 u) [] 1 (by with_unfolding_all rfl) trivial ?_
        refine ev_callS1 0 (t_X4_isIn y1 v1) cs_X4_isIn ml_X0_21 rfl rfl rfl (Nat.le_of_ble_eq_true rfl) (by with_unfolding_all rfl) (Nat.le_of_ble_eq_true rfl) ⟨Nat.le_of_ble_eq_true rfl, Nat.le_of_ble_eq_true rfl⟩ ⟨Nat.le_refl _, Nat.le_refl _⟩ ?_ ?_
        · rintro r w ⟨rfl, rfl⟩; rfl
        rintro r w ⟨rfl, rfl⟩
        refine ev_nx (pc' := 37) (st' := [.int (ev_b (st_in y1 v1))]) (w' := W_X0 u) rfl rfl (by with_unfolding_all rfl) rfl rfl ?_
        refine ev_br rfl rfl (fun h4 => ?_) (fun h4 => ?_)
        · replace hR := lf_z0 h4 hR
          refine ev_run (cs := []) (pc' := 11) (L' := [some (.ref 0), some (.int v1), some (.int v2), some (.int v3), some (.int (v4 + 1))]) (st' := []) (w' := W_X0 u) [] 2 (by with_unfolding_all rfl) trivial ?_
          exact ev_to2 (hk11 _ _ hR) ⟨rfl, rfl, rfl, rfl, rfl, trivial⟩ rfl rfl
        · replace hR := lf_z1 h4 hR
          refine ev_run (cs := []) (pc' := 11) (L' := [some (.ref 0), some (.int v1), some (.int v2), some (.int (v3 ||| (1 <<< (v4 &&& 31)))), some (.int (v4 + 1))]) (st' := []) (w' := W_X0 u) [] 8 (by with_unfolding_all rfl) trivial ?_
          exact ev_to2 (hk11 _ _ hR) ⟨rfl, rfl, rfl, rfl, rfl, trivial⟩ rfl rfl

def s_X0_ringOf (F : Nat) (u : S_X0) (v1 : Int32) : Option Int32 := (s_X0_reachOf F u v1).bind fun y1 => (s_X0_ringOf_l11 F u v1 y1 F 0 0)
set_option maxHeartbeats 4000000 in
set_option maxRecDepth 20000 in
theorem t_X0_ringOf (F : Nat) (u : S_X0) (v1 : Int32) (x : Int32) (hR : s_X0_ringOf F u v1 = some x) : ev_A yX0_ringOf mm_X0_ringOf none [.ref 0, .int v1] (W_X0 u) (fun r w => r = some (.int x) ∧ w = W_X0 u) := by
  unfold s_X0_ringOf at hR
  refine ev_start ok_X0_ringOf (by decide +kernel) rfl rfl (Nat.le_of_ble_eq_true rfl) ?_
  refine ev_run (cs := []) (pc' := 2) (L' := [some (.ref 0), some (.int v1), none, none, none]) (st' := [.int v1, .ref 0]) (w' := W_X0 u) [] 2 (by with_unfolding_all rfl) trivial ?_
  obtain ⟨y1, h1, hR⟩ := lf_b hR
  refine ev_callV1 0 (t_X0_reachOf F u v1 _ h1) cv_X0_reachOf ml_X0_40 rfl rfl rfl (Nat.le_of_ble_eq_true rfl) (by with_unfolding_all rfl) (Nat.le_of_ble_eq_true rfl) ⟨Nat.le_of_ble_eq_true rfl, Nat.le_of_ble_eq_true rfl⟩ ⟨Nat.le_refl _, Nat.le_refl _⟩ ?_ ?_
  · rintro r w ⟨rfl, rfl⟩; rfl
  rintro r w ⟨rfl, rfl⟩
  refine ev_nx (pc' := 5) (st' := [.int y1]) (w' := W_X0 u) rfl rfl (by with_unfolding_all rfl) rfl rfl ?_
  refine ev_run (cs := []) (pc' := 11) (L' := [some (.ref 0), some (.int v1), some (.int y1), some (.int 0), some (.int 0)]) (st' := []) (w' := W_X0 u) [] 5 (by with_unfolding_all rfl) trivial ?_
  exact ev_to2 (t_X0_ringOf_l11 F u v1 y1 _ F 0 0 hR) ⟨rfl, rfl, rfl, rfl, rfl, trivial⟩ rfl rfl

def s_X0_lostWithout (F : Nat) (u : S_X0) (v1 : Int32) : Option Int32 := (s_X0_reached F u).bind fun y1 => ((s_X0_reachedWithout F u v1).bind fun y2 => (some ((jd_bc y1) - (jd_bc y2))))
set_option maxHeartbeats 4000000 in
set_option maxRecDepth 20000 in
theorem t_X0_lostWithout (F : Nat) (u : S_X0) (v1 : Int32) (x : Int32) (hR : s_X0_lostWithout F u v1 = some x) : ev_A yX0_lostWithout mm_X0_lostWithout none [.ref 0, .int v1] (W_X0 u) (fun r w => r = some (.int x) ∧ w = W_X0 u) := by
  unfold s_X0_lostWithout at hR
  refine ev_start ok_X0_lostWithout (by decide +kernel) rfl rfl (Nat.le_of_ble_eq_true rfl) ?_
  refine ev_run (cs := []) (pc' := 1) (L' := [some (.ref 0), some (.int v1)]) (st' := [.ref 0]) (w' := W_X0 u) [] 1 (by with_unfolding_all rfl) trivial ?_
  obtain ⟨y1, h1, hR⟩ := lf_b hR
  refine ev_callV1 0 (t_X0_reached F u _ h1) cv_X0_reached ml_X0_46 rfl rfl rfl (Nat.le_of_ble_eq_true rfl) (by with_unfolding_all rfl) (Nat.le_of_ble_eq_true rfl) ⟨Nat.le_of_ble_eq_true rfl, Nat.le_of_ble_eq_true rfl⟩ ⟨Nat.le_refl _, Nat.le_refl _⟩ ?_ ?_
  · rintro r w ⟨rfl, rfl⟩; rfl
  rintro r w ⟨rfl, rfl⟩
  refine ev_nx (pc' := 4) (st' := [.int y1]) (w' := W_X0 u) rfl rfl (by with_unfolding_all rfl) rfl rfl ?_
  refine ev_callS1 0 (t_J6_bitCount_0f7a4 y1) cs_J6_bitCount_0f7a4 ml_X0_50 rfl rfl rfl (Nat.le_of_ble_eq_true rfl) (by with_unfolding_all rfl) (Nat.le_of_ble_eq_true rfl) ⟨Nat.le_of_ble_eq_true rfl, Nat.le_of_ble_eq_true rfl⟩ ⟨Nat.le_refl _, Nat.le_refl _⟩ ?_ ?_
  · rintro r w ⟨rfl, rfl⟩; rfl
  rintro r w ⟨rfl, rfl⟩
  refine ev_nx (pc' := 7) (st' := [.int (jd_bc y1)]) (w' := W_X0 u) rfl rfl (by with_unfolding_all rfl) rfl rfl ?_
  refine ev_run (cs := []) (pc' := 9) (L' := [some (.ref 0), some (.int v1)]) (st' := [.int v1, .ref 0, .int (jd_bc y1)]) (w' := W_X0 u) [] 2 (by with_unfolding_all rfl) trivial ?_
  obtain ⟨y2, h2, hR⟩ := lf_b hR
  refine ev_callV1 0 (t_X0_reachedWithout F u v1 _ h2) cv_X0_reachedWithout ml_X0_25 rfl rfl rfl (Nat.le_of_ble_eq_true rfl) (by with_unfolding_all rfl) (Nat.le_of_ble_eq_true rfl) ⟨Nat.le_of_ble_eq_true rfl, Nat.le_of_ble_eq_true rfl⟩ ⟨Nat.le_refl _, Nat.le_refl _⟩ ?_ ?_
  · rintro r w ⟨rfl, rfl⟩; rfl
  rintro r w ⟨rfl, rfl⟩
  refine ev_nx (pc' := 12) (st' := [.int y2, .int (jd_bc y1)]) (w' := W_X0 u) rfl rfl (by with_unfolding_all rfl) rfl rfl ?_
  refine ev_callS1 0 (t_J6_bitCount_0f7a4 y2) cs_J6_bitCount_0f7a4 ml_X0_50 rfl rfl rfl (Nat.le_of_ble_eq_true rfl) (by with_unfolding_all rfl) (Nat.le_of_ble_eq_true rfl) ⟨Nat.le_of_ble_eq_true rfl, Nat.le_of_ble_eq_true rfl⟩ ⟨Nat.le_refl _, Nat.le_refl _⟩ ?_ ?_
  · rintro r w ⟨rfl, rfl⟩; rfl
  rintro r w ⟨rfl, rfl⟩
  refine ev_nx (pc' := 15) (st' := [.int (jd_bc y2), .int (jd_bc y1)]) (w' := W_X0 u) rfl rfl (by with_unfolding_all rfl) rfl rfl ?_
  refine ev_run (cs := []) (pc' := 16) (L' := [some (.ref 0), some (.int v1)]) (st' := [.int ((jd_bc y1) - (jd_bc y2))]) (w' := W_X0 u) [] 1 (by with_unfolding_all rfl) trivial ?_
  cases hR
  exact ev_exit ⟨_, _, rfl, ⟨rfl, Or.inl rfl⟩, ⟨rfl, rfl⟩, Nat.le_refl _, Nat.le_refl _⟩

def s_X0_cutWithMostLost_b31 (F : Nat) (k6 : Int32 → Int32 → Int32 → Option Int32) (u : S_X0) (v1 : Int32) (v2 : Int32) (v3 : Int32) (p0 : Int32) : Option Int32 := if p0 ≤ v2 then (k6 v1 v2 (v3 + 1)) else (k6 v3 p0 (v3 + 1))
set_option maxHeartbeats 4000000 in
set_option maxRecDepth 20000 in
theorem t_X0_cutWithMostLost_b31 (F : Nat) (k6 : Int32 → Int32 → Int32 → Option Int32) (u : S_X0) (v1 : Int32) (v2 : Int32) (v3 : Int32) (p0 : Int32) (x : Int32) (hk6 : ∀ (v1 : Int32) (v2 : Int32) (v3 : Int32), k6 v1 v2 v3 = some x → ev_V mm_X0_cutWithMostLost none (ev_XR mm_X0_cutWithMostLost (fun r w => r = some (.int x) ∧ w = W_X0 u)) 6 [some (.ref 0), some (.int v1), some (.int v2), some (.int v3), none] [] (W_X0 u) 0 0) (hR : s_X0_cutWithMostLost_b31 F k6 u v1 v2 v3 p0 = some x) : ev_V mm_X0_cutWithMostLost none (ev_XR mm_X0_cutWithMostLost (fun r w => r = some (.int x) ∧ w = W_X0 u)) 31 [some (.ref 0), some (.int v1), some (.int v2), some (.int v3), none] [.int p0] (W_X0 u) 0 0 := by
  unfold s_X0_cutWithMostLost_b31 at hR
  refine ev_run (cs := []) (pc' := 36) (L' := [some (.ref 0), some (.int v1), some (.int v2), some (.int v3), some (.int p0)]) (st' := [.int v2, .int p0]) (w' := W_X0 u) [] 3 (by with_unfolding_all rfl) trivial ?_
  refine ev_br rfl rfl (fun h1 => ?_) (fun h1 => ?_)
  · replace hR := lf_t h1 hR
    refine ev_run (cs := []) (pc' := 6) (L' := [some (.ref 0), some (.int v1), some (.int v2), some (.int (v3 + 1)), some (.int p0)]) (st' := []) (w' := W_X0 u) [] 2 (by with_unfolding_all rfl) trivial ?_
    exact ev_to2 (hk6 _ _ _ hR) ⟨rfl, rfl, rfl, rfl, trivial⟩ rfl rfl
  · replace hR := lf_f h1 hR
    refine ev_run (cs := []) (pc' := 6) (L' := [some (.ref 0), some (.int v3), some (.int p0), some (.int (v3 + 1)), some (.int p0)]) (st' := []) (w' := W_X0 u) [] 6 (by with_unfolding_all rfl) trivial ?_
    exact ev_to2 (hk6 _ _ _ hR) ⟨rfl, rfl, rfl, rfl, trivial⟩ rfl rfl

def s_X0_cutWithMostLost_l6 (F : Nat) (u : S_X0) : Nat → Int32 → Int32 → Int32 → Option Int32
  | 0 => fun _ _ _ => none
  | n + 1 => fun v1 v2 v3 => if 100 ≤ v3 then (some (v1)) else (if lf_ix v3 100 then (if ((a_X0_held u) v3.toNatClampNeg) = (-1) then (s_X0_cutWithMostLost_b31 F (s_X0_cutWithMostLost_l6 F u n) u v1 v2 v3 0) else ((s_X0_lostWithout F u v3).bind fun y1 => (s_X0_cutWithMostLost_b31 F (s_X0_cutWithMostLost_l6 F u n) u v1 v2 v3 y1))) else none)
theorem e_X0_cutWithMostLost_l6 (F : Nat) (u : S_X0) (n : Nat) (v1 : Int32) (v2 : Int32) (v3 : Int32) : s_X0_cutWithMostLost_l6 F u (n + 1) v1 v2 v3 = if 100 ≤ v3 then (some (v1)) else (if lf_ix v3 100 then (if ((a_X0_held u) v3.toNatClampNeg) = (-1) then (s_X0_cutWithMostLost_b31 F (s_X0_cutWithMostLost_l6 F u n) u v1 v2 v3 0) else ((s_X0_lostWithout F u v3).bind fun y1 => (s_X0_cutWithMostLost_b31 F (s_X0_cutWithMostLost_l6 F u n) u v1 v2 v3 y1))) else none) := rfl
set_option maxHeartbeats 4000000 in
set_option maxRecDepth 20000 in
theorem t_X0_cutWithMostLost_l6 (F : Nat) (u : S_X0) (x : Int32)  : ∀ (n : Nat) (v1 : Int32) (v2 : Int32) (v3 : Int32), s_X0_cutWithMostLost_l6 F u n v1 v2 v3 = some x → ev_V mm_X0_cutWithMostLost none (ev_XR mm_X0_cutWithMostLost (fun r w => r = some (.int x) ∧ w = W_X0 u)) 6 [some (.ref 0), some (.int v1), some (.int v2), some (.int v3), none] [] (W_X0 u) 0 0 := by
  intro n
  induction n with
  | zero => intro v1 v2 v3 hR; cases hR
  | succ n hk6 =>
    intro v1 v2 v3 hR
    unfold s_X0_cutWithMostLost_l6 at hR
    refine ev_run (cs := []) (pc' := 9) (L' := [some (.ref 0), some (.int v1), some (.int v2), some (.int v3), none]) (st' := [.int 100, .int v3]) (w' := W_X0 u) [] 2 (by with_unfolding_all rfl) trivial ?_
    refine ev_br rfl rfl (fun h1 => ?_) (fun h1 => ?_)
    · replace hR := lf_t h1 hR
      refine ev_run (cs := []) (pc' := 51) (L' := [some (.ref 0), some (.int v1), some (.int v2), some (.int v3), none]) (st' := [.int v1]) (w' := W_X0 u) [] 1 (by with_unfolding_all rfl) trivial ?_
      cases hR
      exact ev_exit ⟨_, _, rfl, ⟨rfl, Or.inl rfl⟩, ⟨rfl, rfl⟩, Nat.le_refl _, Nat.le_refl _⟩
    · replace hR := lf_f h1 hR
      obtain ⟨h2, hR⟩ := lf_g hR
      refine ev_run (cs := [lf_ix v3 100]) (pc' := 19) (L' := [some (.ref 0), some (.int v1), some (.int v2), some (.int v3), none]) (st' := [.int (-1), .int ((a_X0_held u) v3.toNatClampNeg)]) (w' := W_X0 u) [] 5 (by with_unfolding_all rfl) (h2) ?_
      refine ev_br rfl rfl (fun h3 => ?_) (fun h3 => ?_)
      · replace hR := lf_f h3 hR
        refine ev_run (cs := []) (pc' := 28) (L' := [some (.ref 0), some (.int v1), some (.int v2), some (.int v3), none]) (st' := [.int v3, .ref 0]) (w' := W_X0 u) [] 2 (by with_unfolding_all rfl) trivial ?_
        obtain ⟨y1, h4, hR⟩ := lf_b hR
        refine ev_callV1 0 (t_X0_lostWithout F u v3 _ h4) cv_X0_lostWithout ml_X0_43 rfl rfl rfl (Nat.le_of_ble_eq_true rfl) (by with_unfolding_all rfl) (Nat.le_of_ble_eq_true rfl) ⟨Nat.le_of_ble_eq_true rfl, Nat.le_of_ble_eq_true rfl⟩ ⟨Nat.le_refl _, Nat.le_refl _⟩ ?_ ?_
        · rintro r w ⟨rfl, rfl⟩; rfl
        rintro r w ⟨rfl, rfl⟩
        refine ev_nx (pc' := 31) (st' := [.int y1]) (w' := W_X0 u) rfl rfl (by with_unfolding_all rfl) rfl rfl ?_
        exact ev_to2 (t_X0_cutWithMostLost_b31 F (s_X0_cutWithMostLost_l6 F u n) u v1 v2 v3 y1 _ hk6 hR) ⟨rfl, rfl, rfl, rfl, trivial⟩ rfl rfl
      · replace hR := lf_t h3 hR
        refine ev_run (cs := []) (pc' := 31) (L' := [some (.ref 0), some (.int v1), some (.int v2), some (.int v3), none]) (st' := [.int 0]) (w' := W_X0 u) [] 2 (by with_unfolding_all rfl) trivial ?_
        exact ev_to2 (t_X0_cutWithMostLost_b31 F (s_X0_cutWithMostLost_l6 F u n) u v1 v2 v3 0 _ hk6 hR) ⟨rfl, rfl, rfl, rfl, trivial⟩ rfl rfl

def s_X0_cutWithMostLost (F : Nat) (u : S_X0) : Option Int32 := s_X0_cutWithMostLost_l6 F u F (-1) 0 0
set_option maxHeartbeats 4000000 in
set_option maxRecDepth 20000 in
theorem t_X0_cutWithMostLost (F : Nat) (u : S_X0) (x : Int32) (hR : s_X0_cutWithMostLost F u = some x) : ev_A yX0_cutWithMostLost mm_X0_cutWithMostLost none [.ref 0] (W_X0 u) (fun r w => r = some (.int x) ∧ w = W_X0 u) := by
  unfold s_X0_cutWithMostLost at hR
  refine ev_start ok_X0_cutWithMostLost (by decide +kernel) rfl rfl (Nat.le_of_ble_eq_true rfl) ?_
  refine ev_run (cs := []) (pc' := 6) (L' := [some (.ref 0), some (.int (-1)), some (.int 0), some (.int 0), none]) (st' := []) (w' := W_X0 u) [] 6 (by with_unfolding_all rfl) trivial ?_
  exact ev_to2 (t_X0_cutWithMostLost_l6 F u _ F (-1) 0 0 hR) ⟨rfl, rfl, rfl, rfl, trivial⟩ rfl rfl

