def s_X1_copyFrom (F : Nat) (u : S_X1) (v : S_X1) : Option S_X1 := if lf_cp (5 * (a_X1_heard v)) (5 * (a_X1_heard v)) (5 * ((a_X1_made v) - (a_X1_heard v))) 6000 6000 then (some (m_X1_rows (va_cpy (a_X1_rows v) (a_X1_rows u) ((5 * (a_X1_heard v)).toNatClampNeg) ((5 * (a_X1_heard v)).toNatClampNeg) ((5 * ((a_X1_made v) - (a_X1_heard v))).toNatClampNeg)) (m_X1_sums (va_cpy (a_X1_sums v) (a_X1_sums u) (0 : Int32).toNatClampNeg (0 : Int32).toNatClampNeg (24 : Int32).toNatClampNeg) (m_X1_numbers (va_cpy (a_X1_numbers v) (a_X1_numbers u) (0 : Int32).toNatClampNeg (0 : Int32).toNatClampNeg (24 : Int32).toNatClampNeg) (m_X1_made (a_X1_made v) (m_X1_heard (a_X1_heard v) u)))))) else none
set_option maxHeartbeats 4000000 in
set_option maxRecDepth 20000 in
theorem t_X1_copyFrom (F : Nat) (u : S_X1) (v : S_X1) (x : S_X1) (hR : s_X1_copyFrom F u v = some x) : ev_A yX1_copyFrom mm_X1_copyFrom none [.ref 0, .ref 4] (W2_X1 u v) (fun r w => r = none ∧ w = W2_X1 x v) := by
  unfold s_X1_copyFrom at hR
  refine ev_start ok_X1_copyFrom (by decide +kernel) rfl rfl (Nat.le_of_ble_eq_true rfl) ?_
  refine ev_run (cs := []) (pc' := 22) (L' := [some (.ref 0), some (.ref 4)]) (st' := [.ref 0, .int 0, .ref 6]) (w' := W2_X1 (m_X1_made (a_X1_made v) (m_X1_heard (a_X1_heard v) u)) v) [] 12 (by with_unfolding_all rfl) trivial ?_
  refine ev_run (cs := []) (pc' := 28) (L' := [some (.ref 0), some (.ref 4)]) (st' := [.int 24, .int 0, .ref 2, .int 0, .ref 6]) (w' := W2_X1 (m_X1_made (a_X1_made v) (m_X1_heard (a_X1_heard v) u)) v) [] 3 (by with_unfolding_all rfl) trivial ?_
  refine ev_cpy (ev_has_in (k := 294) (by decide +kernel)) rfl rfl rfl (by decide) (Nat.le_of_ble_eq_true rfl) ⟨Nat.le_of_ble_eq_true rfl, Nat.le_of_ble_eq_true rfl⟩ ?_
  refine ev_nx (pc' := 31) (st' := []) (w' := W2_X1 (m_X1_numbers (va_cpy (a_X1_numbers v) (a_X1_numbers u) (0 : Int32).toNatClampNeg (0 : Int32).toNatClampNeg (24 : Int32).toNatClampNeg) (m_X1_made (a_X1_made v) (m_X1_heard (a_X1_heard v) u))) v) rfl rfl (by with_unfolding_all rfl) rfl rfl ?_
  refine ev_run (cs := []) (pc' := 43) (L' := [some (.ref 0), some (.ref 4)]) (st' := [.int 24, .int 0, .ref 3, .int 0, .ref 7]) (w' := W2_X1 (m_X1_numbers (va_cpy (a_X1_numbers v) (a_X1_numbers u) (0 : Int32).toNatClampNeg (0 : Int32).toNatClampNeg (24 : Int32).toNatClampNeg) (m_X1_made (a_X1_made v) (m_X1_heard (a_X1_heard v) u))) v) [] 7 (by with_unfolding_all rfl) trivial ?_
  refine ev_cpy (ev_has_in (k := 294) (by decide +kernel)) rfl rfl rfl (by decide) (Nat.le_of_ble_eq_true rfl) ⟨Nat.le_of_ble_eq_true rfl, Nat.le_of_ble_eq_true rfl⟩ ?_
  refine ev_nx (pc' := 46) (st' := []) (w' := W2_X1 (m_X1_sums (va_cpy (a_X1_sums v) (a_X1_sums u) (0 : Int32).toNatClampNeg (0 : Int32).toNatClampNeg (24 : Int32).toNatClampNeg) (m_X1_numbers (va_cpy (a_X1_numbers v) (a_X1_numbers u) (0 : Int32).toNatClampNeg (0 : Int32).toNatClampNeg (24 : Int32).toNatClampNeg) (m_X1_made (a_X1_made v) (m_X1_heard (a_X1_heard v) u)))) v) rfl rfl (by with_unfolding_all rfl) rfl rfl ?_
  refine ev_run (cs := []) (pc' := 66) (L' := [some (.ref 0), some (.ref 4)]) (st' := [.int (5 * (a_X1_heard v)), .ref 1, .int (5 * (a_X1_heard v)), .ref 5]) (w' := W2_X1 (m_X1_sums (va_cpy (a_X1_sums v) (a_X1_sums u) (0 : Int32).toNatClampNeg (0 : Int32).toNatClampNeg (24 : Int32).toNatClampNeg) (m_X1_numbers (va_cpy (a_X1_numbers v) (a_X1_numbers u) (0 : Int32).toNatClampNeg (0 : Int32).toNatClampNeg (24 : Int32).toNatClampNeg) (m_X1_made (a_X1_made v) (m_X1_heard (a_X1_heard v) u)))) v) [] 12 (by with_unfolding_all rfl) trivial ?_
  refine ev_run (cs := []) (pc' := 77) (L' := [some (.ref 0), some (.ref 4)]) (st' := [.int (5 * ((a_X1_made v) - (a_X1_heard v))), .int (5 * (a_X1_heard v)), .ref 1, .int (5 * (a_X1_heard v)), .ref 5]) (w' := W2_X1 (m_X1_sums (va_cpy (a_X1_sums v) (a_X1_sums u) (0 : Int32).toNatClampNeg (0 : Int32).toNatClampNeg (24 : Int32).toNatClampNeg) (m_X1_numbers (va_cpy (a_X1_numbers v) (a_X1_numbers u) (0 : Int32).toNatClampNeg (0 : Int32).toNatClampNeg (24 : Int32).toNatClampNeg) (m_X1_made (a_X1_made v) (m_X1_heard (a_X1_heard v) u)))) v) [] 7 (by with_unfolding_all rfl) trivial ?_
  obtain ⟨h1, hR⟩ := lf_g hR
  refine ev_cpy (ev_has_in (k := 294) (by decide +kernel)) rfl rfl rfl h1 (Nat.le_of_ble_eq_true rfl) ⟨Nat.le_of_ble_eq_true rfl, Nat.le_of_ble_eq_true rfl⟩ ?_
  refine ev_nx (pc' := 80) (st' := []) (w' := W2_X1 (m_X1_rows (va_cpy (a_X1_rows v) (a_X1_rows u) ((5 * (a_X1_heard v)).toNatClampNeg) ((5 * (a_X1_heard v)).toNatClampNeg) ((5 * ((a_X1_made v) - (a_X1_heard v))).toNatClampNeg)) (m_X1_sums (va_cpy (a_X1_sums v) (a_X1_sums u) (0 : Int32).toNatClampNeg (0 : Int32).toNatClampNeg (24 : Int32).toNatClampNeg) (m_X1_numbers (va_cpy (a_X1_numbers v) (a_X1_numbers u) (0 : Int32).toNatClampNeg (0 : Int32).toNatClampNeg (24 : Int32).toNatClampNeg) (m_X1_made (a_X1_made v) (m_X1_heard (a_X1_heard v) u))))) v) rfl rfl (by with_unfolding_all rfl) rfl rfl ?_
  cases hR
  exact ev_exit ⟨_, _, rfl, ⟨rfl, rfl⟩, ⟨rfl, rfl⟩, Nat.le_refl _, Nat.le_refl _⟩

def s_X1_underWay (F : Nat) (u : S_X1) : Option Int32 := some ((a_X1_made u) - (a_X1_heard u))
set_option maxHeartbeats 4000000 in
set_option maxRecDepth 20000 in
theorem t_X1_underWay (F : Nat) (u : S_X1) (x : Int32) (hR : s_X1_underWay F u = some x) : ev_A yX1_underWay mm_X1_underWay none [.ref 0] (W_X1 u) (fun r w => r = some (.int x) ∧ w = W_X1 u) := by
  unfold s_X1_underWay at hR
  refine ev_start ok_X1_underWay (by decide +kernel) rfl rfl (Nat.le_of_ble_eq_true rfl) ?_
  refine ev_run (cs := []) (pc' := 9) (L' := [some (.ref 0)]) (st' := [.int ((a_X1_made u) - (a_X1_heard u))]) (w' := W_X1 u) [] 5 (by with_unfolding_all rfl) trivial ?_
  cases hR
  exact ev_exit ⟨_, _, rfl, ⟨rfl, Or.inl rfl⟩, ⟨rfl, rfl⟩, Nat.le_refl _, Nat.le_refl _⟩

def s_X1_part (F : Nat) (u : S_X1) (v1 : Int32) (v2 : Int32) : Option Int32 := if ((5 * ((a_X1_heard u) + v1)) + v2) < 0 then (some (0)) else (if 6000 ≤ ((5 * ((a_X1_heard u) + v1)) + v2) then (some (0)) else (if lf_ix ((5 * ((a_X1_heard u) + v1)) + v2) 6000 then (some ((a_X1_rows u) (((5 * ((a_X1_heard u) + v1)) + v2).toNatClampNeg))) else none))
set_option maxHeartbeats 4000000 in
set_option maxRecDepth 20000 in
theorem t_X1_part (F : Nat) (u : S_X1) (v1 : Int32) (v2 : Int32) (x : Int32) (hR : s_X1_part F u v1 v2 = some x) : ev_A yX1_part mm_X1_part none [.ref 0, .int v1, .int v2] (W_X1 u) (fun r w => r = some (.int x) ∧ w = W_X1 u) := by
  unfold s_X1_part at hR
  refine ev_start ok_X1_part (by decide +kernel) rfl rfl (Nat.le_of_ble_eq_true rfl) ?_
  refine ev_run (cs := []) (pc' := 12) (L' := [some (.ref 0), some (.int v1), some (.int v2), some (.int ((5 * ((a_X1_heard u) + v1)) + v2))]) (st' := [.int ((5 * ((a_X1_heard u) + v1)) + v2)]) (w' := W_X1 u) [] 10 (by with_unfolding_all rfl) trivial ?_
  refine ev_br rfl rfl (fun h1 => ?_) (fun h1 => ?_)
  · replace hR := lf_t h1 hR
    refine ev_run (cs := []) (pc' := 32) (L' := [some (.ref 0), some (.int v1), some (.int v2), some (.int ((5 * ((a_X1_heard u) + v1)) + v2))]) (st' := [.int 0]) (w' := W_X1 u) [] 1 (by with_unfolding_all rfl) trivial ?_
    cases hR
    exact ev_exit ⟨_, _, rfl, ⟨rfl, Or.inl rfl⟩, ⟨rfl, rfl⟩, Nat.le_refl _, Nat.le_refl _⟩
  · replace hR := lf_f h1 hR
    refine ev_run (cs := []) (pc' := 19) (L' := [some (.ref 0), some (.int v1), some (.int v2), some (.int ((5 * ((a_X1_heard u) + v1)) + v2))]) (st' := [.int 6000, .int ((5 * ((a_X1_heard u) + v1)) + v2)]) (w' := W_X1 u) [] 2 (by with_unfolding_all rfl) trivial ?_
    refine ev_br rfl rfl (fun h2 => ?_) (fun h2 => ?_)
    · replace hR := lf_t h2 hR
      refine ev_run (cs := []) (pc' := 32) (L' := [some (.ref 0), some (.int v1), some (.int v2), some (.int ((5 * ((a_X1_heard u) + v1)) + v2))]) (st' := [.int 0]) (w' := W_X1 u) [] 1 (by with_unfolding_all rfl) trivial ?_
      cases hR
      exact ev_exit ⟨_, _, rfl, ⟨rfl, Or.inl rfl⟩, ⟨rfl, rfl⟩, Nat.le_refl _, Nat.le_refl _⟩
    · replace hR := lf_f h2 hR
      obtain ⟨h3, hR⟩ := lf_g hR
      refine ev_run (cs := [lf_ix ((5 * ((a_X1_heard u) + v1)) + v2) 6000]) (pc' := 32) (L' := [some (.ref 0), some (.int v1), some (.int v2), some (.int ((5 * ((a_X1_heard u) + v1)) + v2))]) (st' := [.int ((a_X1_rows u) (((5 * ((a_X1_heard u) + v1)) + v2).toNatClampNeg))]) (w' := W_X1 u) [] 5 (by with_unfolding_all rfl) (h3) ?_
      cases hR
      exact ev_exit ⟨_, _, rfl, ⟨rfl, Or.inl rfl⟩, ⟨rfl, rfl⟩, Nat.le_refl _, Nat.le_refl _⟩

def s_X1_anyDue (F : Nat) (u : S_X1) (v1 : Int32) : Option Bool := if (a_X1_made u) ≤ (a_X1_heard u) then (some (false)) else ((s_X1_part F u 0 3).bind fun y1 => (if v1 < y1 then (some (false)) else (some (true))))
set_option maxHeartbeats 4000000 in
set_option maxRecDepth 20000 in
theorem t_X1_anyDue (F : Nat) (u : S_X1) (v1 : Int32) (x : Bool) (hR : s_X1_anyDue F u v1 = some x) : ev_A yX1_anyDue mm_X1_anyDue none [.ref 0, .int v1] (W_X1 u) (fun r w => r = some (.int (ev_b x)) ∧ w = W_X1 u) := by
  unfold s_X1_anyDue at hR
  refine ev_start ok_X1_anyDue (by decide +kernel) rfl rfl (Nat.le_of_ble_eq_true rfl) ?_
  refine ev_run (cs := []) (pc' := 8) (L' := [some (.ref 0), some (.int v1)]) (st' := [.int (a_X1_made u), .int (a_X1_heard u)]) (w' := W_X1 u) [] 4 (by with_unfolding_all rfl) trivial ?_
  refine ev_br rfl rfl (fun h1 => ?_) (fun h1 => ?_)
  · replace hR := lf_t h1 hR
    refine ev_run (cs := []) (pc' := 26) (L' := [some (.ref 0), some (.int v1)]) (st' := [.int 0]) (w' := W_X1 u) [] 1 (by with_unfolding_all rfl) trivial ?_
    cases hR
    exact ev_exit ⟨_, _, rfl, ⟨rfl, Or.inr ⟨rfl, rfl⟩⟩, ⟨rfl, rfl⟩, Nat.le_refl _, Nat.le_refl _⟩
  · replace hR := lf_f h1 hR
    refine ev_run (cs := []) (pc' := 14) (L' := [some (.ref 0), some (.int v1)]) (st' := [.int 3, .int 0, .ref 0]) (w' := W_X1 u) [] 3 (by with_unfolding_all rfl) trivial ?_
    obtain ⟨y1, h2, hR⟩ := lf_b hR
    refine ev_callV1 0 (t_X1_part F u 0 3 _ h2) cv_X1_part ml_X1_34 rfl rfl rfl (Nat.le_of_ble_eq_true rfl) (by with_unfolding_all rfl) (Nat.le_of_ble_eq_true rfl) ⟨Nat.le_of_ble_eq_true rfl, Nat.le_of_ble_eq_true rfl⟩ ⟨Nat.le_refl _, Nat.le_refl _⟩ ?_ ?_
    · rintro r w ⟨rfl, rfl⟩; rfl
    rintro r w ⟨rfl, rfl⟩
    refine ev_nx (pc' := 17) (st' := [.int y1]) (w' := W_X1 u) rfl rfl (by with_unfolding_all rfl) rfl rfl ?_
    refine ev_run (cs := []) (pc' := 18) (L' := [some (.ref 0), some (.int v1)]) (st' := [.int v1, .int y1]) (w' := W_X1 u) [] 1 (by with_unfolding_all rfl) trivial ?_
    refine ev_br rfl rfl (fun h3 => ?_) (fun h3 => ?_)
    · replace hR := lf_t h3 hR
      refine ev_run (cs := []) (pc' := 26) (L' := [some (.ref 0), some (.int v1)]) (st' := [.int 0]) (w' := W_X1 u) [] 1 (by with_unfolding_all rfl) trivial ?_
      cases hR
      exact ev_exit ⟨_, _, rfl, ⟨rfl, Or.inr ⟨rfl, rfl⟩⟩, ⟨rfl, rfl⟩, Nat.le_refl _, Nat.le_refl _⟩
    · replace hR := lf_f h3 hR
      refine ev_run (cs := []) (pc' := 26) (L' := [some (.ref 0), some (.int v1)]) (st' := [.int 1]) (w' := W_X1 u) [] 2 (by with_unfolding_all rfl) trivial ?_
      cases hR
      exact ev_exit ⟨_, _, rfl, ⟨rfl, Or.inr ⟨rfl, rfl⟩⟩, ⟨rfl, rfl⟩, Nat.le_refl _, Nat.le_refl _⟩

def s_X1_anyFor_l2 (F : Nat) (u : S_X1) (v1 : Int32) : Nat → Int32 → Option Bool
  | 0 => fun _ => none
  | n + 1 => fun v2 => if 24 ≤ v2 then (some (false)) else (if (st_in v1 v2) then (if lf_ix v2 24 then (if ((a_X1_numbers u) v2.toNatClampNeg) ≤ 0 then (s_X1_anyFor_l2 F u v1 n (v2 + 1)) else (some (true))) else none) else (s_X1_anyFor_l2 F u v1 n (v2 + 1)))
theorem e_X1_anyFor_l2 (F : Nat) (u : S_X1) (v1 : Int32) (n : Nat) (v2 : Int32) : s_X1_anyFor_l2 F u v1 (n + 1) v2 = if 24 ≤ v2 then (some (false)) else (if (st_in v1 v2) then (if lf_ix v2 24 then (if ((a_X1_numbers u) v2.toNatClampNeg) ≤ 0 then (s_X1_anyFor_l2 F u v1 n (v2 + 1)) else (some (true))) else none) else (s_X1_anyFor_l2 F u v1 n (v2 + 1))) := rfl
set_option maxHeartbeats 4000000 in
set_option maxRecDepth 20000 in
theorem t_X1_anyFor_l2 (F : Nat) (u : S_X1) (v1 : Int32) (x : Bool)  : ∀ (n : Nat) (v2 : Int32), s_X1_anyFor_l2 F u v1 n v2 = some x → ev_V mm_X1_anyFor none (ev_XR mm_X1_anyFor (fun r w => r = some (.int (ev_b x)) ∧ w = W_X1 u)) 2 [some (.ref 0), some (.int v1), some (.int v2)] [] (W_X1 u) 0 0 := by
  intro n
  induction n with
  | zero => intro v2 hR; cases hR
  | succ n hk2 =>
    intro v2 hR
    unfold s_X1_anyFor_l2 at hR
    refine ev_run (cs := []) (pc' := 5) (L' := [some (.ref 0), some (.int v1), some (.int v2)]) (st' := [.int 24, .int v2]) (w' := W_X1 u) [] 2 (by with_unfolding_all rfl) trivial ?_
    refine ev_br rfl rfl (fun h1 => ?_) (fun h1 => ?_)
    · replace hR := lf_t h1 hR
      refine ev_run (cs := []) (pc' := 34) (L' := [some (.ref 0), some (.int v1), some (.int v2)]) (st' := [.int 0]) (w' := W_X1 u) [] 1 (by with_unfolding_all rfl) trivial ?_
      cases hR
      exact ev_exit ⟨_, _, rfl, ⟨rfl, Or.inr ⟨rfl, rfl⟩⟩, ⟨rfl, rfl⟩, Nat.le_refl _, Nat.le_refl _⟩
    · replace hR := lf_f h1 hR
      refine ev_run (cs := []) (pc' := 10) (L' := [some (.ref 0), some (.int v1), some (.int v2)]) (st' := [.int v2, .int v1]) (w' := W_X1 u) [] 2 (by with_unfolding_all rfl) trivial ?_
      refine ev_callS1 0 (t_X4_isIn v1 v2) cs_X4_isIn ml_X1_38 rfl rfl rfl (Nat.le_of_ble_eq_true rfl) (by with_unfolding_all rfl) (Nat.le_of_ble_eq_true rfl) ⟨Nat.le_of_ble_eq_true rfl, Nat.le_of_ble_eq_true rfl⟩ ⟨Nat.le_refl _, Nat.le_refl _⟩ ?_ ?_
      · rintro r w ⟨rfl, rfl⟩; rfl
      rintro r w ⟨rfl, rfl⟩
      refine ev_nx (pc' := 13) (st' := [.int (ev_b (st_in v1 v2))]) (w' := W_X1 u) rfl rfl (by with_unfolding_all rfl) rfl rfl ?_
      refine ev_br rfl rfl (fun h2 => ?_) (fun h2 => ?_)
      · replace hR := lf_z0 h2 hR
        refine ev_run (cs := []) (pc' := 2) (L' := [some (.ref 0), some (.int v1), some (.int (v2 + 1))]) (st' := []) (w' := W_X1 u) [] 2 (by with_unfolding_all rfl) trivial ?_
        exact ev_to2 (hk2 _ hR) ⟨rfl, rfl, rfl, trivial⟩ rfl rfl
      · replace hR := lf_z1 h2 hR
        obtain ⟨h3, hR⟩ := lf_g hR
        refine ev_run (cs := [lf_ix v2 24]) (pc' := 22) (L' := [some (.ref 0), some (.int v1), some (.int v2)]) (st' := [.int ((a_X1_numbers u) v2.toNatClampNeg)]) (w' := W_X1 u) [] 4 (by with_unfolding_all rfl) (h3) ?_
        refine ev_br rfl rfl (fun h4 => ?_) (fun h4 => ?_)
        · replace hR := lf_t h4 hR
          refine ev_run (cs := []) (pc' := 2) (L' := [some (.ref 0), some (.int v1), some (.int (v2 + 1))]) (st' := []) (w' := W_X1 u) [] 2 (by with_unfolding_all rfl) trivial ?_
          exact ev_to2 (hk2 _ hR) ⟨rfl, rfl, rfl, trivial⟩ rfl rfl
        · replace hR := lf_f h4 hR
          refine ev_run (cs := []) (pc' := 26) (L' := [some (.ref 0), some (.int v1), some (.int v2)]) (st' := [.int 1]) (w' := W_X1 u) [] 1 (by with_unfolding_all rfl) trivial ?_
          cases hR
          exact ev_exit ⟨_, _, rfl, ⟨rfl, Or.inr ⟨rfl, rfl⟩⟩, ⟨rfl, rfl⟩, Nat.le_refl _, Nat.le_refl _⟩

def s_X1_anyFor (F : Nat) (u : S_X1) (v1 : Int32) : Option Bool := s_X1_anyFor_l2 F u v1 F 0
set_option maxHeartbeats 4000000 in
set_option maxRecDepth 20000 in
theorem t_X1_anyFor (F : Nat) (u : S_X1) (v1 : Int32) (x : Bool) (hR : s_X1_anyFor F u v1 = some x) : ev_A yX1_anyFor mm_X1_anyFor none [.ref 0, .int v1] (W_X1 u) (fun r w => r = some (.int (ev_b x)) ∧ w = W_X1 u) := by
  unfold s_X1_anyFor at hR
  refine ev_start ok_X1_anyFor (by decide +kernel) rfl rfl (Nat.le_of_ble_eq_true rfl) ?_
  refine ev_run (cs := []) (pc' := 2) (L' := [some (.ref 0), some (.int v1), some (.int 0)]) (st' := []) (w' := W_X1 u) [] 2 (by with_unfolding_all rfl) trivial ?_
  exact ev_to2 (t_X1_anyFor_l2 F u v1 _ F 0 hR) ⟨rfl, rfl, rfl, trivial⟩ rfl rfl

def s_X1_numberFor (F : Nat) (u : S_X1) (v1 : Int32) : Option Int32 := if v1 < 0 then (some (0)) else (if 24 ≤ v1 then (some (0)) else (if lf_ix v1 24 then (some ((a_X1_numbers u) v1.toNatClampNeg)) else none))
set_option maxHeartbeats 4000000 in
set_option maxRecDepth 20000 in
theorem t_X1_numberFor (F : Nat) (u : S_X1) (v1 : Int32) (x : Int32) (hR : s_X1_numberFor F u v1 = some x) : ev_A yX1_numberFor mm_X1_numberFor none [.ref 0, .int v1] (W_X1 u) (fun r w => r = some (.int x) ∧ w = W_X1 u) := by
  unfold s_X1_numberFor at hR
  refine ev_start ok_X1_numberFor (by decide +kernel) rfl rfl (Nat.le_of_ble_eq_true rfl) ?_
  refine ev_run (cs := []) (pc' := 1) (L' := [some (.ref 0), some (.int v1)]) (st' := [.int v1]) (w' := W_X1 u) [] 1 (by with_unfolding_all rfl) trivial ?_
  refine ev_br rfl rfl (fun h1 => ?_) (fun h1 => ?_)
  · replace hR := lf_t h1 hR
    refine ev_run (cs := []) (pc' := 20) (L' := [some (.ref 0), some (.int v1)]) (st' := [.int 0]) (w' := W_X1 u) [] 1 (by with_unfolding_all rfl) trivial ?_
    cases hR
    exact ev_exit ⟨_, _, rfl, ⟨rfl, Or.inl rfl⟩, ⟨rfl, rfl⟩, Nat.le_refl _, Nat.le_refl _⟩
  · replace hR := lf_f h1 hR
    refine ev_run (cs := []) (pc' := 7) (L' := [some (.ref 0), some (.int v1)]) (st' := [.int 24, .int v1]) (w' := W_X1 u) [] 2 (by with_unfolding_all rfl) trivial ?_
    refine ev_br rfl rfl (fun h2 => ?_) (fun h2 => ?_)
    · replace hR := lf_t h2 hR
      refine ev_run (cs := []) (pc' := 20) (L' := [some (.ref 0), some (.int v1)]) (st' := [.int 0]) (w' := W_X1 u) [] 1 (by with_unfolding_all rfl) trivial ?_
      cases hR
      exact ev_exit ⟨_, _, rfl, ⟨rfl, Or.inl rfl⟩, ⟨rfl, rfl⟩, Nat.le_refl _, Nat.le_refl _⟩
    · replace hR := lf_f h2 hR
      obtain ⟨h3, hR⟩ := lf_g hR
      refine ev_run (cs := [lf_ix v1 24]) (pc' := 20) (L' := [some (.ref 0), some (.int v1)]) (st' := [.int ((a_X1_numbers u) v1.toNatClampNeg)]) (w' := W_X1 u) [] 5 (by with_unfolding_all rfl) (h3) ?_
      cases hR
      exact ev_exit ⟨_, _, rfl, ⟨rfl, Or.inl rfl⟩, ⟨rfl, rfl⟩, Nat.le_refl _, Nat.le_refl _⟩

def s_X1_sumFor (F : Nat) (u : S_X1) (v1 : Int32) : Option Int32 := if v1 < 0 then (some (0)) else (if 24 ≤ v1 then (some (0)) else (if lf_ix v1 24 then (some ((a_X1_sums u) v1.toNatClampNeg)) else none))
set_option maxHeartbeats 4000000 in
set_option maxRecDepth 20000 in
theorem t_X1_sumFor (F : Nat) (u : S_X1) (v1 : Int32) (x : Int32) (hR : s_X1_sumFor F u v1 = some x) : ev_A yX1_sumFor mm_X1_sumFor none [.ref 0, .int v1] (W_X1 u) (fun r w => r = some (.int x) ∧ w = W_X1 u) := by
  unfold s_X1_sumFor at hR
  refine ev_start ok_X1_sumFor (by decide +kernel) rfl rfl (Nat.le_of_ble_eq_true rfl) ?_
  refine ev_run (cs := []) (pc' := 1) (L' := [some (.ref 0), some (.int v1)]) (st' := [.int v1]) (w' := W_X1 u) [] 1 (by with_unfolding_all rfl) trivial ?_
  refine ev_br rfl rfl (fun h1 => ?_) (fun h1 => ?_)
  · replace hR := lf_t h1 hR
    refine ev_run (cs := []) (pc' := 20) (L' := [some (.ref 0), some (.int v1)]) (st' := [.int 0]) (w' := W_X1 u) [] 1 (by with_unfolding_all rfl) trivial ?_
    cases hR
    exact ev_exit ⟨_, _, rfl, ⟨rfl, Or.inl rfl⟩, ⟨rfl, rfl⟩, Nat.le_refl _, Nat.le_refl _⟩
  · replace hR := lf_f h1 hR
    refine ev_run (cs := []) (pc' := 7) (L' := [some (.ref 0), some (.int v1)]) (st' := [.int 24, .int v1]) (w' := W_X1 u) [] 2 (by with_unfolding_all rfl) trivial ?_
    refine ev_br rfl rfl (fun h2 => ?_) (fun h2 => ?_)
    · replace hR := lf_t h2 hR
      refine ev_run (cs := []) (pc' := 20) (L' := [some (.ref 0), some (.int v1)]) (st' := [.int 0]) (w' := W_X1 u) [] 1 (by with_unfolding_all rfl) trivial ?_
      cases hR
      exact ev_exit ⟨_, _, rfl, ⟨rfl, Or.inl rfl⟩, ⟨rfl, rfl⟩, Nat.le_refl _, Nat.le_refl _⟩
    · replace hR := lf_f h2 hR
      obtain ⟨h3, hR⟩ := lf_g hR
      refine ev_run (cs := [lf_ix v1 24]) (pc' := 20) (L' := [some (.ref 0), some (.int v1)]) (st' := [.int ((a_X1_sums u) v1.toNatClampNeg)]) (w' := W_X1 u) [] 5 (by with_unfolding_all rfl) (h3) ?_
      cases hR
      exact ev_exit ⟨_, _, rfl, ⟨rfl, Or.inl rfl⟩, ⟨rfl, rfl⟩, Nat.le_refl _, Nat.le_refl _⟩

def s_X1_make_b73 (F : Nat) (u : S_X1) (v1 : Int32) (v2 : Int32) (v3 : Int32) (v4 : Int32) (v5 : Int32) (v6 : Int32) : Option (Int32 × S_X1) := if lf_cp (5 * v6) ((5 * v6) + 5) (5 * (v5 - v6)) 6000 6000 then (lf_let (m_X1_rows (va_cpy (a_X1_rows u) (a_X1_rows u) ((5 * v6).toNatClampNeg) (((5 * v6) + 5).toNatClampNeg) ((5 * (v5 - v6)).toNatClampNeg)) u) fun z1 => (if lf_ix ((5 * v6) + 0) 6000 then (lf_let (m_X1_rows (upd (a_X1_rows z1) (((5 * v6) + 0).toNatClampNeg) v5) z1) fun z2 => (if lf_ix ((5 * v6) + 1) 6000 then (lf_let (m_X1_rows (upd (a_X1_rows z2) (((5 * v6) + 1).toNatClampNeg) v1) z2) fun z3 => (if lf_ix ((5 * v6) + 2) 6000 then (lf_let (m_X1_rows (upd (a_X1_rows z3) (((5 * v6) + 2).toNatClampNeg) v2) z3) fun z4 => (if lf_ix ((5 * v6) + 3) 6000 then (lf_let (m_X1_rows (upd (a_X1_rows z4) (((5 * v6) + 3).toNatClampNeg) v3) z4) fun z5 => (if lf_ix ((5 * v6) + 4) 6000 then (if lf_ix v1 24 then (if lf_ix v1 24 then (if lf_ix v1 24 then (if lf_ix v1 24 then (some (v5, m_X1_made ((a_X1_made z5) + 1) (m_X1_sums (upd (a_X1_sums z5) v1.toNatClampNeg (((a_X1_sums z5) v1.toNatClampNeg) + v2)) (m_X1_numbers (upd (a_X1_numbers z5) v1.toNatClampNeg (((a_X1_numbers z5) v1.toNatClampNeg) + 1)) (m_X1_rows (upd (a_X1_rows z5) (((5 * v6) + 4).toNatClampNeg) v4) z5))))) else none) else none) else none) else none) else none)) else none)) else none)) else none)) else none)) else none
set_option maxHeartbeats 4000000 in
set_option maxRecDepth 20000 in
theorem t_X1_make_b73 (F : Nat) (u : S_X1) (v1 : Int32) (v2 : Int32) (v3 : Int32) (v4 : Int32) (v5 : Int32) (v6 : Int32) (x : (Int32 × S_X1))  (hR : s_X1_make_b73 F u v1 v2 v3 v4 v5 v6 = some x) : ev_V mm_X1_make none (ev_XR mm_X1_make (fun r w => r = some (.int x.1) ∧ w = W_X1 x.2)) 73 [some (.ref 0), some (.int v1), some (.int v2), some (.int v3), some (.int v4), some (.int v5), some (.int v6), none] [] (W_X1 u) 0 0 := by
  unfold s_X1_make_b73 at hR
  refine ev_run (cs := []) (pc' := 93) (L' := [some (.ref 0), some (.int v1), some (.int v2), some (.int v3), some (.int v4), some (.int v5), some (.int v6), some (.int (5 * v6))]) (st' := [.int ((5 * v6) + 5), .ref 1, .int (5 * v6), .ref 1]) (w' := W_X1 u) [] 12 (by with_unfolding_all rfl) trivial ?_
  refine ev_run (cs := []) (pc' := 100) (L' := [some (.ref 0), some (.int v1), some (.int v2), some (.int v3), some (.int v4), some (.int v5), some (.int v6), some (.int (5 * v6))]) (st' := [.int (5 * (v5 - v6)), .int ((5 * v6) + 5), .ref 1, .int (5 * v6), .ref 1]) (w' := W_X1 u) [] 5 (by with_unfolding_all rfl) trivial ?_
  obtain ⟨h1, hR⟩ := lf_g hR
  refine ev_cpy (ev_has_in (k := 294) (by decide +kernel)) rfl rfl rfl h1 (Nat.le_of_ble_eq_true rfl) ⟨Nat.le_of_ble_eq_true rfl, Nat.le_of_ble_eq_true rfl⟩ ?_
  refine ev_nx (pc' := 103) (st' := []) (w' := W_X1 (m_X1_rows (va_cpy (a_X1_rows u) (a_X1_rows u) ((5 * v6).toNatClampNeg) (((5 * v6) + 5).toNatClampNeg) ((5 * (v5 - v6)).toNatClampNeg)) u)) rfl rfl (by with_unfolding_all rfl) rfl rfl ?_
  refine ev_run (cs := []) (pc' := 113) (L' := [some (.ref 0), some (.int v1), some (.int v2), some (.int v3), some (.int v4), some (.int v5), some (.int v6), some (.int (5 * v6))]) (st' := [.int v5, .int ((5 * v6) + 0), .ref 1]) (w' := W_X1 (m_X1_rows (va_cpy (a_X1_rows u) (a_X1_rows u) ((5 * v6).toNatClampNeg) (((5 * v6) + 5).toNatClampNeg) ((5 * (v5 - v6)).toNatClampNeg)) u)) [] 6 (by with_unfolding_all rfl) trivial ?_
  obtain ⟨z1, hz1, hR⟩ := lf_l hR
  refine ev_nx (pc' := 113) (st' := [.int v5, .int ((5 * v6) + 0), .ref 1]) (w' := W_X1 z1) rfl rfl (congrArg (fun z => W_X1 z) hz1.symm) rfl rfl ?_
  obtain ⟨h2, hR⟩ := lf_g hR
  refine ev_run (cs := [lf_ix ((5 * v6) + 0) 6000]) (pc' := 123) (L' := [some (.ref 0), some (.int v1), some (.int v2), some (.int v3), some (.int v4), some (.int v5), some (.int v6), some (.int (5 * v6))]) (st' := [.int v1, .int ((5 * v6) + 1), .ref 1]) (w' := W_X1 (m_X1_rows (upd (a_X1_rows z1) (((5 * v6) + 0).toNatClampNeg) v5) z1)) [] 7 (by with_unfolding_all rfl) (h2) ?_
  obtain ⟨z2, hz2, hR⟩ := lf_l hR
  refine ev_nx (pc' := 123) (st' := [.int v1, .int ((5 * v6) + 1), .ref 1]) (w' := W_X1 z2) rfl rfl (congrArg (fun z => W_X1 z) hz2.symm) rfl rfl ?_
  obtain ⟨h3, hR⟩ := lf_g hR
  refine ev_run (cs := [lf_ix ((5 * v6) + 1) 6000]) (pc' := 133) (L' := [some (.ref 0), some (.int v1), some (.int v2), some (.int v3), some (.int v4), some (.int v5), some (.int v6), some (.int (5 * v6))]) (st' := [.int v2, .int ((5 * v6) + 2), .ref 1]) (w' := W_X1 (m_X1_rows (upd (a_X1_rows z2) (((5 * v6) + 1).toNatClampNeg) v1) z2)) [] 7 (by with_unfolding_all rfl) (h3) ?_
  obtain ⟨z3, hz3, hR⟩ := lf_l hR
  refine ev_nx (pc' := 133) (st' := [.int v2, .int ((5 * v6) + 2), .ref 1]) (w' := W_X1 z3) rfl rfl (congrArg (fun z => W_X1 z) hz3.symm) rfl rfl ?_
  obtain ⟨h4, hR⟩ := lf_g hR
  refine ev_run (cs := [lf_ix ((5 * v6) + 2) 6000]) (pc' := 143) (L' := [some (.ref 0), some (.int v1), some (.int v2), some (.int v3), some (.int v4), some (.int v5), some (.int v6), some (.int (5 * v6))]) (st' := [.int v3, .int ((5 * v6) + 3), .ref 1]) (w' := W_X1 (m_X1_rows (upd (a_X1_rows z3) (((5 * v6) + 2).toNatClampNeg) v2) z3)) [] 7 (by with_unfolding_all rfl) (h4) ?_
  obtain ⟨z4, hz4, hR⟩ := lf_l hR
  refine ev_nx (pc' := 143) (st' := [.int v3, .int ((5 * v6) + 3), .ref 1]) (w' := W_X1 z4) rfl rfl (congrArg (fun z => W_X1 z) hz4.symm) rfl rfl ?_
  obtain ⟨h5, hR⟩ := lf_g hR
  refine ev_run (cs := [lf_ix ((5 * v6) + 3) 6000]) (pc' := 154) (L' := [some (.ref 0), some (.int v1), some (.int v2), some (.int v3), some (.int v4), some (.int v5), some (.int v6), some (.int (5 * v6))]) (st' := [.int v4, .int ((5 * v6) + 4), .ref 1]) (w' := W_X1 (m_X1_rows (upd (a_X1_rows z4) (((5 * v6) + 3).toNatClampNeg) v3) z4)) [] 7 (by with_unfolding_all rfl) (h5) ?_
  obtain ⟨z5, hz5, hR⟩ := lf_l hR
  refine ev_nx (pc' := 154) (st' := [.int v4, .int ((5 * v6) + 4), .ref 1]) (w' := W_X1 z5) rfl rfl (congrArg (fun z => W_X1 z) hz5.symm) rfl rfl ?_
  obtain ⟨h6, hR⟩ := lf_g hR
  obtain ⟨h7, hR⟩ := lf_g hR
  obtain ⟨h8, hR⟩ := lf_g hR
  refine ev_run (cs := [lf_ix ((5 * v6) + 4) 6000, lf_ix v1 24, lf_ix v1 24]) (pc' := 170) (L' := [some (.ref 0), some (.int v1), some (.int v2), some (.int v3), some (.int v4), some (.int v5), some (.int v6), some (.int (5 * v6))]) (st' := [.int v1, .ref 3]) (w' := W_X1 (m_X1_numbers (upd (a_X1_numbers z5) v1.toNatClampNeg (((a_X1_numbers z5) v1.toNatClampNeg) + 1)) (m_X1_rows (upd (a_X1_rows z5) (((5 * v6) + 4).toNatClampNeg) v4) z5))) [] 12 (by with_unfolding_all rfl) ⟨h6, h7, h8⟩ ?_
  obtain ⟨h9, hR⟩ := lf_g hR
  obtain ⟨h10, hR⟩ := lf_g hR
  refine ev_run (cs := [lf_ix v1 24, lf_ix v1 24]) (pc' := 187) (L' := [some (.ref 0), some (.int v1), some (.int v2), some (.int v3), some (.int v4), some (.int v5), some (.int v6), some (.int (5 * v6))]) (st' := [.int v5]) (w' := W_X1 (m_X1_made ((a_X1_made z5) + 1) (m_X1_sums (upd (a_X1_sums z5) v1.toNatClampNeg (((a_X1_sums z5) v1.toNatClampNeg) + v2)) (m_X1_numbers (upd (a_X1_numbers z5) v1.toNatClampNeg (((a_X1_numbers z5) v1.toNatClampNeg) + 1)) (m_X1_rows (upd (a_X1_rows z5) (((5 * v6) + 4).toNatClampNeg) v4) z5))))) [] 12 (by with_unfolding_all rfl) ⟨h9, h10⟩ ?_
  cases hR
  exact ev_exit ⟨_, _, rfl, ⟨rfl, Or.inl rfl⟩, ⟨rfl, rfl⟩, Nat.le_refl _, Nat.le_refl _⟩

def s_X1_make_l36 (F : Nat) (u : S_X1) (v1 : Int32) (v2 : Int32) (v3 : Int32) (v4 : Int32) (v5 : Int32) : Nat → Int32 → Option (Int32 × S_X1)
  | 0 => fun _ => none
  | n + 1 => fun v6 => if v6 ≤ (a_X1_heard u) then (s_X1_make_b73 F u v1 v2 v3 v4 v5 v6) else (if v6 ≤ 0 then (s_X1_make_b73 F u v1 v2 v3 v4 v5 v6) else (if lf_ix ((5 * (v6 - 1)) + 3) 6000 then (if ((a_X1_rows u) (((5 * (v6 - 1)) + 3).toNatClampNeg)) ≤ v3 then (s_X1_make_b73 F u v1 v2 v3 v4 v5 v6) else (s_X1_make_l36 F u v1 v2 v3 v4 v5 n (v6 + (-1)))) else none))
theorem e_X1_make_l36 (F : Nat) (u : S_X1) (v1 : Int32) (v2 : Int32) (v3 : Int32) (v4 : Int32) (v5 : Int32) (n : Nat) (v6 : Int32) : s_X1_make_l36 F u v1 v2 v3 v4 v5 (n + 1) v6 = if v6 ≤ (a_X1_heard u) then (s_X1_make_b73 F u v1 v2 v3 v4 v5 v6) else (if v6 ≤ 0 then (s_X1_make_b73 F u v1 v2 v3 v4 v5 v6) else (if lf_ix ((5 * (v6 - 1)) + 3) 6000 then (if ((a_X1_rows u) (((5 * (v6 - 1)) + 3).toNatClampNeg)) ≤ v3 then (s_X1_make_b73 F u v1 v2 v3 v4 v5 v6) else (s_X1_make_l36 F u v1 v2 v3 v4 v5 n (v6 + (-1)))) else none)) := rfl
set_option maxHeartbeats 4000000 in
set_option maxRecDepth 20000 in
theorem t_X1_make_l36 (F : Nat) (u : S_X1) (v1 : Int32) (v2 : Int32) (v3 : Int32) (v4 : Int32) (v5 : Int32) (x : (Int32 × S_X1))  : ∀ (n : Nat) (v6 : Int32), s_X1_make_l36 F u v1 v2 v3 v4 v5 n v6 = some x → ev_V mm_X1_make none (ev_XR mm_X1_make (fun r w => r = some (.int x.1) ∧ w = W_X1 x.2)) 36 [some (.ref 0), some (.int v1), some (.int v2), some (.int v3), some (.int v4), some (.int v5), some (.int v6), none] [] (W_X1 u) 0 0 := by
  intro n
  induction n with
  | zero => intro v6 hR; cases hR
  | succ n hk36 =>
    intro v6 hR
    unfold s_X1_make_l36 at hR
    refine ev_run (cs := []) (pc' := 42) (L' := [some (.ref 0), some (.int v1), some (.int v2), some (.int v3), some (.int v4), some (.int v5), some (.int v6), none]) (st' := [.int (a_X1_heard u), .int v6]) (w' := W_X1 u) [] 3 (by with_unfolding_all rfl) trivial ?_
    refine ev_br rfl rfl (fun h1 => ?_) (fun h1 => ?_)
    · replace hR := lf_t h1 hR
      exact ev_to2 (t_X1_make_b73 F u v1 v2 v3 v4 v5 v6 _ hR) ⟨rfl, rfl, rfl, rfl, rfl, rfl, rfl, trivial⟩ rfl rfl
    · replace hR := lf_f h1 hR
      refine ev_run (cs := []) (pc' := 47) (L' := [some (.ref 0), some (.int v1), some (.int v2), some (.int v3), some (.int v4), some (.int v5), some (.int v6), none]) (st' := [.int v6]) (w' := W_X1 u) [] 1 (by with_unfolding_all rfl) trivial ?_
      refine ev_br rfl rfl (fun h2 => ?_) (fun h2 => ?_)
      · replace hR := lf_t h2 hR
        exact ev_to2 (t_X1_make_b73 F u v1 v2 v3 v4 v5 v6 _ hR) ⟨rfl, rfl, rfl, rfl, rfl, rfl, rfl, trivial⟩ rfl rfl
      · replace hR := lf_f h2 hR
        obtain ⟨h3, hR⟩ := lf_g hR
        refine ev_run (cs := [lf_ix ((5 * (v6 - 1)) + 3) 6000]) (pc' := 64) (L' := [some (.ref 0), some (.int v1), some (.int v2), some (.int v3), some (.int v4), some (.int v5), some (.int v6), none]) (st' := [.int v3, .int ((a_X1_rows u) (((5 * (v6 - 1)) + 3).toNatClampNeg))]) (w' := W_X1 u) [] 11 (by with_unfolding_all rfl) (h3) ?_
        refine ev_br rfl rfl (fun h4 => ?_) (fun h4 => ?_)
        · replace hR := lf_t h4 hR
          exact ev_to2 (t_X1_make_b73 F u v1 v2 v3 v4 v5 v6 _ hR) ⟨rfl, rfl, rfl, rfl, rfl, rfl, rfl, trivial⟩ rfl rfl
        · replace hR := lf_f h4 hR
          refine ev_run (cs := []) (pc' := 36) (L' := [some (.ref 0), some (.int v1), some (.int v2), some (.int v3), some (.int v4), some (.int v5), some (.int (v6 + (-1))), none]) (st' := []) (w' := W_X1 u) [] 2 (by with_unfolding_all rfl) trivial ?_
          exact ev_to2 (hk36 _ hR) ⟨rfl, rfl, rfl, rfl, rfl, rfl, rfl, trivial⟩ rfl rfl

def s_X1_make (F : Nat) (u : S_X1) (v1 : Int32) (v2 : Int32) (v3 : Int32) (v4 : Int32) : Option (Int32 × S_X1) := if (a_X1_made u) < 0 then (some (a_X1_made u, u)) else (if 1200 ≤ (a_X1_made u) then (some (a_X1_made u, u)) else (if v1 < 0 then (some (a_X1_made u, u)) else (if v1 < 24 then (s_X1_make_l36 F u v1 v2 v3 v4 (a_X1_made u) F (a_X1_made u)) else (some (a_X1_made u, u)))))
set_option maxHeartbeats 4000000 in
set_option maxRecDepth 20000 in
theorem t_X1_make (F : Nat) (u : S_X1) (v1 : Int32) (v2 : Int32) (v3 : Int32) (v4 : Int32) (x : (Int32 × S_X1)) (hR : s_X1_make F u v1 v2 v3 v4 = some x) : ev_A yX1_make mm_X1_make none [.ref 0, .int v1, .int v2, .int v3, .int v4] (W_X1 u) (fun r w => r = some (.int x.1) ∧ w = W_X1 x.2) := by
  unfold s_X1_make at hR
  refine ev_start ok_X1_make (by decide +kernel) rfl rfl (Nat.le_of_ble_eq_true rfl) ?_
  refine ev_run (cs := []) (pc' := 8) (L' := [some (.ref 0), some (.int v1), some (.int v2), some (.int v3), some (.int v4), some (.int (a_X1_made u)), none, none]) (st' := [.int (a_X1_made u)]) (w' := W_X1 u) [] 4 (by with_unfolding_all rfl) trivial ?_
  refine ev_br rfl rfl (fun h1 => ?_) (fun h1 => ?_)
  · replace hR := lf_t h1 hR
    refine ev_run (cs := []) (pc' := 31) (L' := [some (.ref 0), some (.int v1), some (.int v2), some (.int v3), some (.int v4), some (.int (a_X1_made u)), none, none]) (st' := [.int (a_X1_made u)]) (w' := W_X1 u) [] 1 (by with_unfolding_all rfl) trivial ?_
    cases hR
    exact ev_exit ⟨_, _, rfl, ⟨rfl, Or.inl rfl⟩, ⟨rfl, rfl⟩, Nat.le_refl _, Nat.le_refl _⟩
  · replace hR := lf_f h1 hR
    refine ev_run (cs := []) (pc' := 16) (L' := [some (.ref 0), some (.int v1), some (.int v2), some (.int v3), some (.int v4), some (.int (a_X1_made u)), none, none]) (st' := [.int 1200, .int (a_X1_made u)]) (w' := W_X1 u) [] 2 (by with_unfolding_all rfl) trivial ?_
    refine ev_br rfl rfl (fun h2 => ?_) (fun h2 => ?_)
    · replace hR := lf_t h2 hR
      refine ev_run (cs := []) (pc' := 31) (L' := [some (.ref 0), some (.int v1), some (.int v2), some (.int v3), some (.int v4), some (.int (a_X1_made u)), none, none]) (st' := [.int (a_X1_made u)]) (w' := W_X1 u) [] 1 (by with_unfolding_all rfl) trivial ?_
      cases hR
      exact ev_exit ⟨_, _, rfl, ⟨rfl, Or.inl rfl⟩, ⟨rfl, rfl⟩, Nat.le_refl _, Nat.le_refl _⟩
    · replace hR := lf_f h2 hR
      refine ev_run (cs := []) (pc' := 20) (L' := [some (.ref 0), some (.int v1), some (.int v2), some (.int v3), some (.int v4), some (.int (a_X1_made u)), none, none]) (st' := [.int v1]) (w' := W_X1 u) [] 1 (by with_unfolding_all rfl) trivial ?_
      refine ev_br rfl rfl (fun h3 => ?_) (fun h3 => ?_)
      · replace hR := lf_t h3 hR
        refine ev_run (cs := []) (pc' := 31) (L' := [some (.ref 0), some (.int v1), some (.int v2), some (.int v3), some (.int v4), some (.int (a_X1_made u)), none, none]) (st' := [.int (a_X1_made u)]) (w' := W_X1 u) [] 1 (by with_unfolding_all rfl) trivial ?_
        cases hR
        exact ev_exit ⟨_, _, rfl, ⟨rfl, Or.inl rfl⟩, ⟨rfl, rfl⟩, Nat.le_refl _, Nat.le_refl _⟩
      · replace hR := lf_f h3 hR
        refine ev_run (cs := []) (pc' := 26) (L' := [some (.ref 0), some (.int v1), some (.int v2), some (.int v3), some (.int v4), some (.int (a_X1_made u)), none, none]) (st' := [.int 24, .int v1]) (w' := W_X1 u) [] 2 (by with_unfolding_all rfl) trivial ?_
        refine ev_br rfl rfl (fun h4 => ?_) (fun h4 => ?_)
        · replace hR := lf_t h4 hR
          refine ev_run (cs := []) (pc' := 36) (L' := [some (.ref 0), some (.int v1), some (.int v2), some (.int v3), some (.int v4), some (.int (a_X1_made u)), some (.int (a_X1_made u)), none]) (st' := []) (w' := W_X1 u) [] 2 (by with_unfolding_all rfl) trivial ?_
          exact ev_to2 (t_X1_make_l36 F u v1 v2 v3 v4 (a_X1_made u) _ F (a_X1_made u) hR) ⟨rfl, rfl, rfl, rfl, rfl, rfl, rfl, trivial⟩ rfl rfl
        · replace hR := lf_f h4 hR
          refine ev_run (cs := []) (pc' := 31) (L' := [some (.ref 0), some (.int v1), some (.int v2), some (.int v3), some (.int v4), some (.int (a_X1_made u)), none, none]) (st' := [.int (a_X1_made u)]) (w' := W_X1 u) [] 1 (by with_unfolding_all rfl) trivial ?_
          cases hR
          exact ev_exit ⟨_, _, rfl, ⟨rfl, Or.inl rfl⟩, ⟨rfl, rfl⟩, Nat.le_refl _, Nat.le_refl _⟩

def s_X1_dropFirst (F : Nat) (u : S_X1) : Option S_X1 := (s_X1_part F u 0 1).bind fun y1 => (if (a_X1_made u) ≤ (a_X1_heard u) then (some (u)) else (if y1 < 0 then (some (u)) else (if 24 ≤ y1 then (some (u)) else (if lf_ix y1 24 then (if lf_ix y1 24 then (if lf_ix y1 24 then ((s_X1_part F (m_X1_numbers (upd (a_X1_numbers u) y1.toNatClampNeg (((a_X1_numbers u) y1.toNatClampNeg) - 1)) u) 0 2).bind fun y2 => (if lf_ix y1 24 then (some (m_X1_heard ((a_X1_heard u) + 1) (m_X1_sums (upd (a_X1_sums u) y1.toNatClampNeg (((a_X1_sums u) y1.toNatClampNeg) - y2)) (m_X1_numbers (upd (a_X1_numbers u) y1.toNatClampNeg (((a_X1_numbers u) y1.toNatClampNeg) - 1)) u)))) else none)) else none) else none) else none))))
set_option maxHeartbeats 4000000 in
set_option maxRecDepth 20000 in
theorem t_X1_dropFirst (F : Nat) (u : S_X1) (x : S_X1) (hR : s_X1_dropFirst F u = some x) : ev_A yX1_dropFirst mm_X1_dropFirst none [.ref 0] (W_X1 u) (fun r w => r = none ∧ w = W_X1 x) := by
  unfold s_X1_dropFirst at hR
  refine ev_start ok_X1_dropFirst (by decide +kernel) rfl rfl (Nat.le_of_ble_eq_true rfl) ?_
  refine ev_run (cs := []) (pc' := 3) (L' := [some (.ref 0), none]) (st' := [.int 1, .int 0, .ref 0]) (w' := W_X1 u) [] 3 (by with_unfolding_all rfl) trivial ?_
  obtain ⟨y1, h1, hR⟩ := lf_b hR
  refine ev_callV1 0 (t_X1_part F u 0 1 _ h1) cv_X1_part ml_X1_34 rfl rfl rfl (Nat.le_of_ble_eq_true rfl) (by with_unfolding_all rfl) (Nat.le_of_ble_eq_true rfl) ⟨Nat.le_of_ble_eq_true rfl, Nat.le_of_ble_eq_true rfl⟩ ⟨Nat.le_refl _, Nat.le_refl _⟩ ?_ ?_
  · rintro r w ⟨rfl, rfl⟩; rfl
  rintro r w ⟨rfl, rfl⟩
  refine ev_nx (pc' := 6) (st' := [.int y1]) (w' := W_X1 u) rfl rfl (by with_unfolding_all rfl) rfl rfl ?_
  refine ev_run (cs := []) (pc' := 15) (L' := [some (.ref 0), some (.int y1)]) (st' := [.int (a_X1_made u), .int (a_X1_heard u)]) (w' := W_X1 u) [] 5 (by with_unfolding_all rfl) trivial ?_
  refine ev_br rfl rfl (fun h2 => ?_) (fun h2 => ?_)
  · replace hR := lf_t h2 hR
    cases hR
    exact ev_exit ⟨_, _, rfl, ⟨rfl, rfl⟩, ⟨rfl, rfl⟩, Nat.le_refl _, Nat.le_refl _⟩
  · replace hR := lf_f h2 hR
    refine ev_run (cs := []) (pc' := 19) (L' := [some (.ref 0), some (.int y1)]) (st' := [.int y1]) (w' := W_X1 u) [] 1 (by with_unfolding_all rfl) trivial ?_
    refine ev_br rfl rfl (fun h3 => ?_) (fun h3 => ?_)
    · replace hR := lf_t h3 hR
      cases hR
      exact ev_exit ⟨_, _, rfl, ⟨rfl, rfl⟩, ⟨rfl, rfl⟩, Nat.le_refl _, Nat.le_refl _⟩
    · replace hR := lf_f h3 hR
      refine ev_run (cs := []) (pc' := 25) (L' := [some (.ref 0), some (.int y1)]) (st' := [.int 24, .int y1]) (w' := W_X1 u) [] 2 (by with_unfolding_all rfl) trivial ?_
      refine ev_br rfl rfl (fun h4 => ?_) (fun h4 => ?_)
      · replace hR := lf_t h4 hR
        cases hR
        exact ev_exit ⟨_, _, rfl, ⟨rfl, rfl⟩, ⟨rfl, rfl⟩, Nat.le_refl _, Nat.le_refl _⟩
      · replace hR := lf_f h4 hR
        obtain ⟨h5, hR⟩ := lf_g hR
        obtain ⟨h6, hR⟩ := lf_g hR
        refine ev_run (cs := [lf_ix y1 24, lf_ix y1 24]) (pc' := 44) (L' := [some (.ref 0), some (.int y1)]) (st' := [.int y1, .ref 3, .int y1, .ref 3]) (w' := W_X1 (m_X1_numbers (upd (a_X1_numbers u) y1.toNatClampNeg (((a_X1_numbers u) y1.toNatClampNeg) - 1)) u)) [] 12 (by with_unfolding_all rfl) ⟨h5, h6⟩ ?_
        obtain ⟨h7, hR⟩ := lf_g hR
        refine ev_run (cs := [lf_ix y1 24]) (pc' := 48) (L' := [some (.ref 0), some (.int y1)]) (st' := [.int 2, .int 0, .ref 0, .int ((a_X1_sums u) y1.toNatClampNeg), .int y1, .ref 3]) (w' := W_X1 (m_X1_numbers (upd (a_X1_numbers u) y1.toNatClampNeg (((a_X1_numbers u) y1.toNatClampNeg) - 1)) u)) [] 4 (by with_unfolding_all rfl) (h7) ?_
        obtain ⟨y2, h8, hR⟩ := lf_b hR
        refine ev_callV1 0 (t_X1_part F (m_X1_numbers (upd (a_X1_numbers u) y1.toNatClampNeg (((a_X1_numbers u) y1.toNatClampNeg) - 1)) u) 0 2 _ h8) cv_X1_part ml_X1_34 rfl rfl rfl (Nat.le_of_ble_eq_true rfl) (by with_unfolding_all rfl) (Nat.le_of_ble_eq_true rfl) ⟨Nat.le_of_ble_eq_true rfl, Nat.le_of_ble_eq_true rfl⟩ ⟨Nat.le_refl _, Nat.le_refl _⟩ ?_ ?_
        · rintro r w ⟨rfl, rfl⟩; rfl
        rintro r w ⟨rfl, rfl⟩
        refine ev_nx (pc' := 51) (st' := [.int y2, .int ((a_X1_sums u) y1.toNatClampNeg), .int y1, .ref 3]) (w' := W_X1 (m_X1_numbers (upd (a_X1_numbers u) y1.toNatClampNeg (((a_X1_numbers u) y1.toNatClampNeg) - 1)) u)) rfl rfl (by with_unfolding_all rfl) rfl rfl ?_
        obtain ⟨h9, hR⟩ := lf_g hR
        refine ev_run (cs := [lf_ix y1 24]) (pc' := 63) (L' := [some (.ref 0), some (.int y1)]) (st' := []) (w' := W_X1 (m_X1_heard ((a_X1_heard u) + 1) (m_X1_sums (upd (a_X1_sums u) y1.toNatClampNeg (((a_X1_sums u) y1.toNatClampNeg) - y2)) (m_X1_numbers (upd (a_X1_numbers u) y1.toNatClampNeg (((a_X1_numbers u) y1.toNatClampNeg) - 1)) u)))) [] 8 (by with_unfolding_all rfl) (h9) ?_
        cases hR
        exact ev_exit ⟨_, _, rfl, ⟨rfl, rfl⟩, ⟨rfl, rfl⟩, Nat.le_refl _, Nat.le_refl _⟩

