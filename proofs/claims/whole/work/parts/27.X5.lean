def s_X5_thrown (F : Nat) (u : S_X5) : Option Int32 := some (a_X5_thrown u)
set_option maxHeartbeats 4000000 in
set_option maxRecDepth 20000 in
theorem t_X5_thrown (F : Nat) (u : S_X5) (x : Int32) (hR : s_X5_thrown F u = some x) : ev_A yX5_thrown mm_X5_thrown none [.ref 0] (W_X5 u) (fun r w => r = some (.int x) ∧ w = W_X5 u) := by
  unfold s_X5_thrown at hR
  refine ev_start ok_X5_thrown (by decide +kernel) rfl rfl (Nat.le_of_ble_eq_true rfl) ?_
  refine ev_run (cs := []) (pc' := 4) (L' := [some (.ref 0)]) (st' := [.int (a_X5_thrown u)]) (w' := W_X5 u) [] 2 (by with_unfolding_all rfl) trivial ?_
  cases hR
  exact ev_exit ⟨_, _, rfl, ⟨rfl, Or.inl rfl⟩, ⟨rfl, rfl⟩, Nat.le_refl _, Nat.le_refl _⟩

def s_X5_within (F : Nat) (v0 : Int32) (v1 : Int32) (v2 : Int32) : Option Bool := if v0 < v1 then (some (false)) else (if v2 < v0 then (some (false)) else (some (true)))
set_option maxHeartbeats 4000000 in
set_option maxRecDepth 20000 in
theorem t_X5_within (F : Nat) (v0 : Int32) (v1 : Int32) (v2 : Int32) (x : Bool) (hR : s_X5_within F v0 v1 v2 = some x) : ev_A yX5_within mm_X5_within none [.int v0, .int v1, .int v2] (([] : List ev_E)) (fun r w => r = some (.int (ev_b x)) ∧ w = ([] : List ev_E)) := by
  unfold s_X5_within at hR
  refine ev_start ok_X5_within (by decide +kernel) rfl rfl (Nat.le_of_ble_eq_true rfl) ?_
  refine ev_run (cs := []) (pc' := 2) (L' := [some (.int v0), some (.int v1), some (.int v2)]) (st' := [.int v1, .int v0]) (w' := ([] : List ev_E)) [] 2 (by with_unfolding_all rfl) trivial ?_
  refine ev_br rfl rfl (fun h1 => ?_) (fun h1 => ?_)
  · replace hR := lf_t h1 hR
    refine ev_run (cs := []) (pc' := 15) (L' := [some (.int v0), some (.int v1), some (.int v2)]) (st' := [.int 0]) (w' := ([] : List ev_E)) [] 1 (by with_unfolding_all rfl) trivial ?_
    cases hR
    exact ev_exit ⟨_, _, rfl, ⟨rfl, Or.inr ⟨rfl, rfl⟩⟩, ⟨rfl, rfl⟩, Nat.le_refl _, Nat.le_refl _⟩
  · replace hR := lf_f h1 hR
    refine ev_run (cs := []) (pc' := 7) (L' := [some (.int v0), some (.int v1), some (.int v2)]) (st' := [.int v2, .int v0]) (w' := ([] : List ev_E)) [] 2 (by with_unfolding_all rfl) trivial ?_
    refine ev_br rfl rfl (fun h2 => ?_) (fun h2 => ?_)
    · replace hR := lf_t h2 hR
      refine ev_run (cs := []) (pc' := 15) (L' := [some (.int v0), some (.int v1), some (.int v2)]) (st' := [.int 0]) (w' := ([] : List ev_E)) [] 1 (by with_unfolding_all rfl) trivial ?_
      cases hR
      exact ev_exit ⟨_, _, rfl, ⟨rfl, Or.inr ⟨rfl, rfl⟩⟩, ⟨rfl, rfl⟩, Nat.le_refl _, Nat.le_refl _⟩
    · replace hR := lf_f h2 hR
      refine ev_run (cs := []) (pc' := 15) (L' := [some (.int v0), some (.int v1), some (.int v2)]) (st' := [.int 1]) (w' := ([] : List ev_E)) [] 2 (by with_unfolding_all rfl) trivial ?_
      cases hR
      exact ev_exit ⟨_, _, rfl, ⟨rfl, Or.inr ⟨rfl, rfl⟩⟩, ⟨rfl, rfl⟩, Nat.le_refl _, Nat.le_refl _⟩

def s_X5_copy_al_l16 (F : Nat) (n0 : Nat) (v1 : Int32) (v3 : Int32) (v4 : Int32) : Nat → (Nat → Int32) → Int32 → Option (Nat → Int32)
  | 0 => fun _ _ => none
  | n + 1 => fun f v5 => if v4 ≤ v5 then (some (f)) else (if lf_ix (v1 + v5) n0 then (if lf_ix (v3 + v5) n0 then (s_X5_copy_al_l16 F n0 v1 v3 v4 n (upd f ((v3 + v5).toNatClampNeg) (f ((v1 + v5).toNatClampNeg))) (v5 + 1)) else none) else none)
theorem e_X5_copy_al_l16 (F : Nat) (n0 : Nat) (v1 : Int32) (v3 : Int32) (v4 : Int32) (n : Nat) (f : (Nat → Int32)) (v5 : Int32) : s_X5_copy_al_l16 F n0 v1 v3 v4 (n + 1) f v5 = if v4 ≤ v5 then (some (f)) else (if lf_ix (v1 + v5) n0 then (if lf_ix (v3 + v5) n0 then (s_X5_copy_al_l16 F n0 v1 v3 v4 n (upd f ((v3 + v5).toNatClampNeg) (f ((v1 + v5).toNatClampNeg))) (v5 + 1)) else none) else none) := rfl
set_option maxHeartbeats 4000000 in
set_option maxRecDepth 20000 in
theorem t_X5_copy_al_l16 (F : Nat) (n0 : Nat) (v1 : Int32) (v3 : Int32) (v4 : Int32) (x : (Nat → Int32))  : ∀ (n : Nat) (f : (Nat → Int32)) (v5 : Int32), s_X5_copy_al_l16 F n0 v1 v3 v4 n f v5 = some x → ev_V mm_X5_copy none (ev_XR mm_X5_copy (fun r w => r = none ∧ w = [.inl (0, n0, .inl (x))])) 16 [some (.ref 0), some (.int v1), some (.ref 0), some (.int v3), some (.int v4), some (.int v5)] [] ([.inl (0, n0, .inl (f))]) 0 0 := by
  intro n
  induction n with
  | zero => intro f v5 hR; cases hR
  | succ n hk16 =>
    intro f v5 hR
    unfold s_X5_copy_al_l16 at hR
    refine ev_run (cs := []) (pc' := 20) (L' := [some (.ref 0), some (.int v1), some (.ref 0), some (.int v3), some (.int v4), some (.int v5)]) (st' := [.int v4, .int v5]) (w' := [.inl (0, n0, .inl (f))]) [] 2 (by with_unfolding_all rfl) trivial ?_
    refine ev_br rfl rfl (fun h1 => ?_) (fun h1 => ?_)
    · replace hR := lf_t h1 hR
      cases hR
      exact ev_exit ⟨_, _, rfl, ⟨rfl, rfl⟩, ⟨rfl, rfl⟩, Nat.le_refl _, Nat.le_refl _⟩
    · replace hR := lf_f h1 hR
      obtain ⟨h2, hR⟩ := lf_g hR
      obtain ⟨h3, hR⟩ := lf_g hR
      refine ev_run (cs := [lf_ix (v1 + v5) n0, lf_ix (v3 + v5) n0]) (pc' := 16) (L' := [some (.ref 0), some (.int v1), some (.ref 0), some (.int v3), some (.int v4), some (.int (v5 + 1))]) (st' := []) (w' := [.inl (0, n0, .inl (upd f ((v3 + v5).toNatClampNeg) (f ((v1 + v5).toNatClampNeg))))]) [] 12 (by with_unfolding_all rfl) ⟨h2, h3⟩ ?_
      exact ev_to2 (hk16 _ _ hR) ⟨rfl, rfl, rfl, rfl, rfl, rfl, trivial⟩ rfl rfl

def s_X5_copy_al (F : Nat) (n0 : Nat) (f : (Nat → Int32)) (v1 : Int32) (v3 : Int32) : Option (Nat → Int32) := if lf_ix (v1 + 3) n0 then (s_X5_copy_al_l16 F n0 v1 v3 (377 + (5 * (f ((v1 + 3).toNatClampNeg)))) F f 0) else none
set_option maxHeartbeats 4000000 in
set_option maxRecDepth 20000 in
theorem t_X5_copy_al (F : Nat) (n0 : Nat) (f : (Nat → Int32)) (v1 : Int32) (v3 : Int32) (x : (Nat → Int32)) (hR : s_X5_copy_al F n0 f v1 v3 = some x) : ev_A yX5_copy mm_X5_copy none [.ref 0, .int v1, .ref 0, .int v3] ([.inl (0, n0, .inl (f))]) (fun r w => r = none ∧ w = [.inl (0, n0, .inl (x))]) := by
  unfold s_X5_copy_al at hR
  refine ev_start ok_X5_copy (by decide +kernel) rfl rfl (Nat.le_of_ble_eq_true rfl) ?_
  obtain ⟨h1, hR⟩ := lf_g hR
  refine ev_run (cs := [lf_ix (v1 + 3) n0]) (pc' := 16) (L' := [some (.ref 0), some (.int v1), some (.ref 0), some (.int v3), some (.int (377 + (5 * (f ((v1 + 3).toNatClampNeg))))), some (.int 0)]) (st' := []) (w' := [.inl (0, n0, .inl (f))]) [] 12 (by with_unfolding_all rfl) (h1) ?_
  exact ev_to2 (t_X5_copy_al_l16 F n0 v1 v3 (377 + (5 * (f ((v1 + 3).toNatClampNeg)))) _ F f 0 hR) ⟨rfl, rfl, rfl, rfl, rfl, rfl, trivial⟩ rfl rfl

def s_X5_copy_l16 (F : Nat) (n0 : Nat) (n1 : Nat) (f : (Nat → Int32)) (v1 : Int32) (v3 : Int32) (v4 : Int32) : Nat → (Nat → Int32) → Int32 → Option (Nat → Int32)
  | 0 => fun _ _ => none
  | n + 1 => fun g v5 => if v4 ≤ v5 then (some (g)) else (if lf_ix (v1 + v5) n0 then (if lf_ix (v3 + v5) n1 then (s_X5_copy_l16 F n0 n1 f v1 v3 v4 n (upd g ((v3 + v5).toNatClampNeg) (f ((v1 + v5).toNatClampNeg))) (v5 + 1)) else none) else none)
theorem e_X5_copy_l16 (F : Nat) (n0 : Nat) (n1 : Nat) (f : (Nat → Int32)) (v1 : Int32) (v3 : Int32) (v4 : Int32) (n : Nat) (g : (Nat → Int32)) (v5 : Int32) : s_X5_copy_l16 F n0 n1 f v1 v3 v4 (n + 1) g v5 = if v4 ≤ v5 then (some (g)) else (if lf_ix (v1 + v5) n0 then (if lf_ix (v3 + v5) n1 then (s_X5_copy_l16 F n0 n1 f v1 v3 v4 n (upd g ((v3 + v5).toNatClampNeg) (f ((v1 + v5).toNatClampNeg))) (v5 + 1)) else none) else none) := rfl
set_option maxHeartbeats 4000000 in
set_option maxRecDepth 20000 in
theorem t_X5_copy_l16 (F : Nat) (n0 : Nat) (n1 : Nat) (f : (Nat → Int32)) (v1 : Int32) (v3 : Int32) (v4 : Int32) (x : (Nat → Int32))  : ∀ (n : Nat) (g : (Nat → Int32)) (v5 : Int32), s_X5_copy_l16 F n0 n1 f v1 v3 v4 n g v5 = some x → ev_V mm_X5_copy none (ev_XR mm_X5_copy (fun r w => r = none ∧ w = [.inl (0, n0, .inl (f)), .inl (0, n1, .inl (x))])) 16 [some (.ref 0), some (.int v1), some (.ref 1), some (.int v3), some (.int v4), some (.int v5)] [] ([.inl (0, n0, .inl (f)), .inl (0, n1, .inl (g))]) 0 0 := by
  intro n
  induction n with
  | zero => intro g v5 hR; cases hR
  | succ n hk16 =>
    intro g v5 hR
    unfold s_X5_copy_l16 at hR
    refine ev_run (cs := []) (pc' := 20) (L' := [some (.ref 0), some (.int v1), some (.ref 1), some (.int v3), some (.int v4), some (.int v5)]) (st' := [.int v4, .int v5]) (w' := [.inl (0, n0, .inl (f)), .inl (0, n1, .inl (g))]) [] 2 (by with_unfolding_all rfl) trivial ?_
    refine ev_br rfl rfl (fun h1 => ?_) (fun h1 => ?_)
    · replace hR := lf_t h1 hR
      cases hR
      exact ev_exit ⟨_, _, rfl, ⟨rfl, rfl⟩, ⟨rfl, rfl⟩, Nat.le_refl _, Nat.le_refl _⟩
    · replace hR := lf_f h1 hR
      obtain ⟨h2, hR⟩ := lf_g hR
      obtain ⟨h3, hR⟩ := lf_g hR
      refine ev_run (cs := [lf_ix (v1 + v5) n0, lf_ix (v3 + v5) n1]) (pc' := 16) (L' := [some (.ref 0), some (.int v1), some (.ref 1), some (.int v3), some (.int v4), some (.int (v5 + 1))]) (st' := []) (w' := [.inl (0, n0, .inl (f)), .inl (0, n1, .inl (upd g ((v3 + v5).toNatClampNeg) (f ((v1 + v5).toNatClampNeg))))]) [] 12 (by with_unfolding_all rfl) ⟨h2, h3⟩ ?_
      exact ev_to2 (hk16 _ _ hR) ⟨rfl, rfl, rfl, rfl, rfl, rfl, trivial⟩ rfl rfl

def s_X5_copy (F : Nat) (n0 : Nat) (n1 : Nat) (f : (Nat → Int32)) (g : (Nat → Int32)) (v1 : Int32) (v3 : Int32) : Option (Nat → Int32) := if lf_ix (v1 + 3) n0 then (s_X5_copy_l16 F n0 n1 f v1 v3 (377 + (5 * (f ((v1 + 3).toNatClampNeg)))) F g 0) else none
set_option maxHeartbeats 4000000 in
set_option maxRecDepth 20000 in
theorem t_X5_copy (F : Nat) (n0 : Nat) (n1 : Nat) (f : (Nat → Int32)) (g : (Nat → Int32)) (v1 : Int32) (v3 : Int32) (x : (Nat → Int32)) (hR : s_X5_copy F n0 n1 f g v1 v3 = some x) : ev_A yX5_copy mm_X5_copy none [.ref 0, .int v1, .ref 1, .int v3] ([.inl (0, n0, .inl (f)), .inl (0, n1, .inl (g))]) (fun r w => r = none ∧ w = [.inl (0, n0, .inl (f)), .inl (0, n1, .inl (x))]) := by
  unfold s_X5_copy at hR
  refine ev_start ok_X5_copy (by decide +kernel) rfl rfl (Nat.le_of_ble_eq_true rfl) ?_
  obtain ⟨h1, hR⟩ := lf_g hR
  refine ev_run (cs := [lf_ix (v1 + 3) n0]) (pc' := 16) (L' := [some (.ref 0), some (.int v1), some (.ref 1), some (.int v3), some (.int (377 + (5 * (f ((v1 + 3).toNatClampNeg))))), some (.int 0)]) (st' := []) (w' := [.inl (0, n0, .inl (f)), .inl (0, n1, .inl (g))]) [] 12 (by with_unfolding_all rfl) (h1) ?_
  exact ev_to2 (t_X5_copy_l16 F n0 n1 f v1 v3 (377 + (5 * (f ((v1 + 3).toNatClampNeg)))) _ F g 0 hR) ⟨rfl, rfl, rfl, rfl, rfl, rfl, trivial⟩ rfl rfl

def s_X5_save_b56 (F : Nat) (u : S_X5) : Option S_X5 := (s_X5_copy F 20377 122262 (a_X5_state u) (a_X5_saved u) 0 ((a_X5_savedMany u) * 20377)).bind fun y1 => (some (m_X5_savedMany ((a_X5_savedMany u) + 1) (m_X5_saved y1 u)))
set_option maxHeartbeats 4000000 in
set_option maxRecDepth 20000 in
theorem t_X5_save_b56 (F : Nat) (u : S_X5) (x : S_X5)  (hR : s_X5_save_b56 F u = some x) : ev_V mm_X5_save none (ev_XR mm_X5_save (fun r w => r = none ∧ w = W_X5 x)) 56 [some (.ref 0), none] [] (W_X5 u) 0 0 := by
  unfold s_X5_save_b56 at hR
  refine ev_run (cs := []) (pc' := 73) (L' := [some (.ref 0), none]) (st' := [.int ((a_X5_savedMany u) * 20377), .ref 3, .int 0, .ref 1]) (w' := W_X5 u) [] 9 (by with_unfolding_all rfl) trivial ?_
  obtain ⟨y1, h1, hR⟩ := lf_b hR
  refine ev_callS2 1 1 3 (t_X5_copy F 20377 122262 (a_X5_state u) (a_X5_saved u) 0 ((a_X5_savedMany u) * 20377) _ h1) cs_X5_copy ml_X5_42 rfl rfl rfl rfl (Nat.le_of_ble_eq_true rfl) (Nat.le_of_ble_eq_true rfl) (by decide) (by with_unfolding_all rfl) (Nat.le_of_ble_eq_true rfl) ⟨Nat.le_of_ble_eq_true rfl, Nat.le_of_ble_eq_true rfl⟩ ⟨Nat.le_refl _, Nat.le_refl _⟩ ?_ ?_
  · rintro r w ⟨rfl, rfl⟩; rfl
  rintro r w ⟨rfl, rfl⟩
  refine ev_nx (pc' := 76) (st' := []) (w' := W_X5 (m_X5_saved y1 u)) rfl rfl (by with_unfolding_all rfl) rfl rfl ?_
  refine ev_run (cs := []) (pc' := 86) (L' := [some (.ref 0), none]) (st' := []) (w' := W_X5 (m_X5_savedMany ((a_X5_savedMany u) + 1) (m_X5_saved y1 u))) [] 6 (by with_unfolding_all rfl) trivial ?_
  cases hR
  exact ev_exit ⟨_, _, rfl, ⟨rfl, rfl⟩, ⟨rfl, rfl⟩, Nat.le_refl _, Nat.le_refl _⟩

def s_X5_save_l11 (F : Nat) : Nat → S_X5 → Int32 → Option S_X5
  | 0 => fun _ _ => none
  | n + 1 => fun u v1 => if 6 ≤ v1 then (s_X5_save_b56 F (m_X5_savedMany ((a_X5_savedMany u) - 1) u)) else ((s_X5_copy_al F 122262 (a_X5_saved u) (v1 * 20377) ((v1 - 1) * 20377)).bind fun y1 => (s_X5_save_l11 F n (m_X5_saved y1 u) (v1 + 1)))
theorem e_X5_save_l11 (F : Nat) (n : Nat) (u : S_X5) (v1 : Int32) : s_X5_save_l11 F (n + 1) u v1 = if 6 ≤ v1 then (s_X5_save_b56 F (m_X5_savedMany ((a_X5_savedMany u) - 1) u)) else ((s_X5_copy_al F 122262 (a_X5_saved u) (v1 * 20377) ((v1 - 1) * 20377)).bind fun y1 => (s_X5_save_l11 F n (m_X5_saved y1 u) (v1 + 1))) := rfl
set_option maxHeartbeats 4000000 in
set_option maxRecDepth 20000 in
theorem t_X5_save_l11 (F : Nat) (x : S_X5)  : ∀ (n : Nat) (u : S_X5) (v1 : Int32), s_X5_save_l11 F n u v1 = some x → ev_V mm_X5_save none (ev_XR mm_X5_save (fun r w => r = none ∧ w = W_X5 x)) 11 [some (.ref 0), some (.int v1)] [] (W_X5 u) 0 0 := by
  intro n
  induction n with
  | zero => intro u v1 hR; cases hR
  | succ n hk11 =>
    intro u v1 hR
    unfold s_X5_save_l11 at hR
    refine ev_run (cs := []) (pc' := 14) (L' := [some (.ref 0), some (.int v1)]) (st' := [.int 6, .int v1]) (w' := W_X5 u) [] 2 (by with_unfolding_all rfl) trivial ?_
    refine ev_br rfl rfl (fun h1 => ?_) (fun h1 => ?_)
    · replace hR := lf_t h1 hR
      refine ev_run (cs := []) (pc' := 56) (L' := [some (.ref 0), some (.int v1)]) (st' := []) (w' := W_X5 (m_X5_savedMany ((a_X5_savedMany u) - 1) u)) [] 6 (by with_unfolding_all rfl) trivial ?_
      exact ev_to2 (t_X5_save_b56 F (m_X5_savedMany ((a_X5_savedMany u) - 1) u) _ hR) ⟨rfl, trivial⟩ rfl rfl
    · replace hR := lf_f h1 hR
      refine ev_run (cs := []) (pc' := 37) (L' := [some (.ref 0), some (.int v1)]) (st' := [.int ((v1 - 1) * 20377), .ref 3, .int (v1 * 20377), .ref 3]) (w' := W_X5 u) [] 12 (by with_unfolding_all rfl) trivial ?_
      obtain ⟨y1, h2, hR⟩ := lf_b hR
      refine ev_callS1 3 (t_X5_copy_al F 122262 (a_X5_saved u) (v1 * 20377) ((v1 - 1) * 20377) _ h2) cs_X5_copy ml_X5_42 rfl rfl rfl (Nat.le_of_ble_eq_true rfl) (by with_unfolding_all rfl) (Nat.le_of_ble_eq_true rfl) ⟨Nat.le_of_ble_eq_true rfl, Nat.le_of_ble_eq_true rfl⟩ ⟨Nat.le_refl _, Nat.le_refl _⟩ ?_ ?_
      · rintro r w ⟨rfl, rfl⟩; rfl
      rintro r w ⟨rfl, rfl⟩
      refine ev_nx (pc' := 40) (st' := []) (w' := W_X5 (m_X5_saved y1 u)) rfl rfl (by with_unfolding_all rfl) rfl rfl ?_
      refine ev_run (cs := []) (pc' := 11) (L' := [some (.ref 0), some (.int (v1 + 1))]) (st' := []) (w' := W_X5 (m_X5_saved y1 u)) [] 2 (by with_unfolding_all rfl) trivial ?_
      exact ev_to2 (hk11 _ _ hR) ⟨rfl, rfl, trivial⟩ rfl rfl

def s_X5_save (F : Nat) (u : S_X5) : Option S_X5 := if (a_X5_savedMany u) = 6 then (s_X5_save_l11 F F u 1) else (s_X5_save_b56 F u)
set_option maxHeartbeats 4000000 in
set_option maxRecDepth 20000 in
theorem t_X5_save (F : Nat) (u : S_X5) (x : S_X5) (hR : s_X5_save F u = some x) : ev_A yX5_save mm_X5_save none [.ref 0] (W_X5 u) (fun r w => r = none ∧ w = W_X5 x) := by
  unfold s_X5_save at hR
  refine ev_start ok_X5_save (by decide +kernel) rfl rfl (Nat.le_of_ble_eq_true rfl) ?_
  refine ev_run (cs := []) (pc' := 6) (L' := [some (.ref 0), none]) (st' := [.int 6, .int (a_X5_savedMany u)]) (w' := W_X5 u) [] 3 (by with_unfolding_all rfl) trivial ?_
  refine ev_br rfl rfl (fun h1 => ?_) (fun h1 => ?_)
  · replace hR := lf_f h1 hR
    exact ev_to2 (t_X5_save_b56 F u _ hR) ⟨rfl, trivial⟩ rfl rfl
  · replace hR := lf_t h1 hR
    refine ev_run (cs := []) (pc' := 11) (L' := [some (.ref 0), some (.int 1)]) (st' := []) (w' := W_X5 u) [] 2 (by with_unfolding_all rfl) trivial ?_
    exact ev_to2 (t_X5_save_l11 F _ F u 1 hR) ⟨rfl, rfl, trivial⟩ rfl rfl

def s_X5_isThing (F : Nat) (u : S_X5) (v1 : Int32) : Option Bool := (s_X5_within F v1 0 (((a_X5_state u) (1 : Int32).toNatClampNeg) - 1)).bind fun y1 => (some (y1))
set_option maxHeartbeats 4000000 in
set_option maxRecDepth 20000 in
theorem t_X5_isThing (F : Nat) (u : S_X5) (v1 : Int32) (x : Bool) (hR : s_X5_isThing F u v1 = some x) : ev_A yX5_isThing mm_X5_isThing none [.ref 0, .int v1] (W_X5 u) (fun r w => r = some (.int (ev_b x)) ∧ w = W_X5 u) := by
  unfold s_X5_isThing at hR
  refine ev_start ok_X5_isThing (by decide +kernel) rfl rfl (Nat.le_of_ble_eq_true rfl) ?_
  refine ev_run (cs := [lf_ix 1 20377]) (pc' := 10) (L' := [some (.ref 0), some (.int v1)]) (st' := [.int (((a_X5_state u) (1 : Int32).toNatClampNeg) - 1), .int 0, .int v1]) (w' := W_X5 u) [] 8 (by with_unfolding_all rfl) (by show ¬ _; decide) ?_
  obtain ⟨y1, h1, hR⟩ := lf_b hR
  refine ev_callS1 0 (t_X5_within F v1 0 (((a_X5_state u) (1 : Int32).toNatClampNeg) - 1) _ h1) cs_X5_within ml_X5_46 rfl rfl rfl (Nat.le_of_ble_eq_true rfl) (by with_unfolding_all rfl) (Nat.le_of_ble_eq_true rfl) ⟨Nat.le_of_ble_eq_true rfl, Nat.le_of_ble_eq_true rfl⟩ ⟨Nat.le_refl _, Nat.le_refl _⟩ ?_ ?_
  · rintro r w ⟨rfl, rfl⟩; rfl
  rintro r w ⟨rfl, rfl⟩
  refine ev_nx (pc' := 13) (st' := [.int (ev_b y1)]) (w' := W_X5 u) rfl rfl (by with_unfolding_all rfl) rfl rfl ?_
  cases hR
  exact ev_exit ⟨_, _, rfl, ⟨rfl, Or.inr ⟨rfl, ev_bn _⟩⟩, ⟨rfl, rfl⟩, Nat.le_refl _, Nat.le_refl _⟩

def s_X5_part (F : Nat) (u : S_X5) (v1 : Int32) (v2 : Int32) : Option Int32 := if lf_ix ((17 + (10 * v1)) + v2) 20377 then (some ((a_X5_state u) (((17 + (10 * v1)) + v2).toNatClampNeg))) else none
set_option maxHeartbeats 4000000 in
set_option maxRecDepth 20000 in
theorem t_X5_part (F : Nat) (u : S_X5) (v1 : Int32) (v2 : Int32) (x : Int32) (hR : s_X5_part F u v1 v2 = some x) : ev_A yX5_part mm_X5_part none [.ref 0, .int v1, .int v2] (W_X5 u) (fun r w => r = some (.int x) ∧ w = W_X5 u) := by
  unfold s_X5_part at hR
  refine ev_start ok_X5_part (by decide +kernel) rfl rfl (Nat.le_of_ble_eq_true rfl) ?_
  obtain ⟨h1, hR⟩ := lf_g hR
  refine ev_run (cs := [lf_ix ((17 + (10 * v1)) + v2) 20377]) (pc' := 14) (L' := [some (.ref 0), some (.int v1), some (.int v2)]) (st' := [.int ((a_X5_state u) (((17 + (10 * v1)) + v2).toNatClampNeg))]) (w' := W_X5 u) [] 10 (by with_unfolding_all rfl) (h1) ?_
  cases hR
  exact ev_exit ⟨_, _, rfl, ⟨rfl, Or.inl rfl⟩, ⟨rfl, rfl⟩, Nat.le_refl _, Nat.le_refl _⟩

def s_X5_setPart (F : Nat) (u : S_X5) (v1 : Int32) (v2 : Int32) (v3 : Int32) : Option S_X5 := if lf_ix ((17 + (10 * v1)) + v2) 20377 then (some (m_X5_state (upd (a_X5_state u) (((17 + (10 * v1)) + v2).toNatClampNeg) v3) u)) else none
set_option maxHeartbeats 4000000 in
set_option maxRecDepth 20000 in
theorem t_X5_setPart (F : Nat) (u : S_X5) (v1 : Int32) (v2 : Int32) (v3 : Int32) (x : S_X5) (hR : s_X5_setPart F u v1 v2 v3 = some x) : ev_A yX5_setPart mm_X5_setPart none [.ref 0, .int v1, .int v2, .int v3] (W_X5 u) (fun r w => r = none ∧ w = W_X5 x) := by
  unfold s_X5_setPart at hR
  refine ev_start ok_X5_setPart (by decide +kernel) rfl rfl (Nat.le_of_ble_eq_true rfl) ?_
  obtain ⟨h1, hR⟩ := lf_g hR
  refine ev_run (cs := [lf_ix ((17 + (10 * v1)) + v2) 20377]) (pc' := 15) (L' := [some (.ref 0), some (.int v1), some (.int v2), some (.int v3)]) (st' := []) (w' := W_X5 (m_X5_state (upd (a_X5_state u) (((17 + (10 * v1)) + v2).toNatClampNeg) v3) u)) [] 11 (by with_unfolding_all rfl) (h1) ?_
  cases hR
  exact ev_exit ⟨_, _, rfl, ⟨rfl, rfl⟩, ⟨rfl, rfl⟩, Nat.le_refl _, Nat.le_refl _⟩

def s_X5_lives (F : Nat) (u : S_X5) (v1 : Int32) : Option Bool := (s_X5_part F u v1 0).bind fun y1 => (if y1 = 1 then (some (true)) else (some (false)))
set_option maxHeartbeats 4000000 in
set_option maxRecDepth 20000 in
theorem t_X5_lives (F : Nat) (u : S_X5) (v1 : Int32) (x : Bool) (hR : s_X5_lives F u v1 = some x) : ev_A yX5_lives mm_X5_lives none [.ref 0, .int v1] (W_X5 u) (fun r w => r = some (.int (ev_b x)) ∧ w = W_X5 u) := by
  unfold s_X5_lives at hR
  refine ev_start ok_X5_lives (by decide +kernel) rfl rfl (Nat.le_of_ble_eq_true rfl) ?_
  refine ev_run (cs := []) (pc' := 3) (L' := [some (.ref 0), some (.int v1)]) (st' := [.int 0, .int v1, .ref 0]) (w' := W_X5 u) [] 3 (by with_unfolding_all rfl) trivial ?_
  obtain ⟨y1, h1, hR⟩ := lf_b hR
  refine ev_callV1 0 (t_X5_part F u v1 0 _ h1) cv_X5_part ml_X5_50 rfl rfl rfl (Nat.le_of_ble_eq_true rfl) (by with_unfolding_all rfl) (Nat.le_of_ble_eq_true rfl) ⟨Nat.le_of_ble_eq_true rfl, Nat.le_of_ble_eq_true rfl⟩ ⟨Nat.le_refl _, Nat.le_refl _⟩ ?_ ?_
  · rintro r w ⟨rfl, rfl⟩; rfl
  rintro r w ⟨rfl, rfl⟩
  refine ev_nx (pc' := 6) (st' := [.int y1]) (w' := W_X5 u) rfl rfl (by with_unfolding_all rfl) rfl rfl ?_
  refine ev_run (cs := []) (pc' := 7) (L' := [some (.ref 0), some (.int v1)]) (st' := [.int 1, .int y1]) (w' := W_X5 u) [] 1 (by with_unfolding_all rfl) trivial ?_
  refine ev_br rfl rfl (fun h2 => ?_) (fun h2 => ?_)
  · replace hR := lf_f h2 hR
    refine ev_run (cs := []) (pc' := 15) (L' := [some (.ref 0), some (.int v1)]) (st' := [.int 0]) (w' := W_X5 u) [] 1 (by with_unfolding_all rfl) trivial ?_
    cases hR
    exact ev_exit ⟨_, _, rfl, ⟨rfl, Or.inr ⟨rfl, rfl⟩⟩, ⟨rfl, rfl⟩, Nat.le_refl _, Nat.le_refl _⟩
  · replace hR := lf_t h2 hR
    refine ev_run (cs := []) (pc' := 15) (L' := [some (.ref 0), some (.int v1)]) (st' := [.int 1]) (w' := W_X5 u) [] 2 (by with_unfolding_all rfl) trivial ?_
    cases hR
    exact ev_exit ⟨_, _, rfl, ⟨rfl, Or.inr ⟨rfl, rfl⟩⟩, ⟨rfl, rfl⟩, Nat.le_refl _, Nat.le_refl _⟩

def s_X5_slotOf (F : Nat) (u : S_X5) (v1 : Int32) (v2 : Int32) : Option Int32 := if lf_ix ((257 + (4 * v1)) + v2) 20377 then (some ((a_X5_state u) (((257 + (4 * v1)) + v2).toNatClampNeg))) else none
set_option maxHeartbeats 4000000 in
set_option maxRecDepth 20000 in
theorem t_X5_slotOf (F : Nat) (u : S_X5) (v1 : Int32) (v2 : Int32) (x : Int32) (hR : s_X5_slotOf F u v1 v2 = some x) : ev_A yX5_slotOf mm_X5_slotOf none [.ref 0, .int v1, .int v2] (W_X5 u) (fun r w => r = some (.int x) ∧ w = W_X5 u) := by
  unfold s_X5_slotOf at hR
  refine ev_start ok_X5_slotOf (by decide +kernel) rfl rfl (Nat.le_of_ble_eq_true rfl) ?_
  obtain ⟨h1, hR⟩ := lf_g hR
  refine ev_run (cs := [lf_ix ((257 + (4 * v1)) + v2) 20377]) (pc' := 14) (L' := [some (.ref 0), some (.int v1), some (.int v2)]) (st' := [.int ((a_X5_state u) (((257 + (4 * v1)) + v2).toNatClampNeg))]) (w' := W_X5 u) [] 10 (by with_unfolding_all rfl) (h1) ?_
  cases hR
  exact ev_exit ⟨_, _, rfl, ⟨rfl, Or.inl rfl⟩, ⟨rfl, rfl⟩, Nat.le_refl _, Nat.le_refl _⟩

def s_X5_reportPart (F : Nat) (u : S_X5) (v1 : Int32) (v2 : Int32) : Option Int32 := if lf_ix ((377 + (5 * v1)) + v2) 20377 then (some ((a_X5_state u) (((377 + (5 * v1)) + v2).toNatClampNeg))) else none
set_option maxHeartbeats 4000000 in
set_option maxRecDepth 20000 in
theorem t_X5_reportPart (F : Nat) (u : S_X5) (v1 : Int32) (v2 : Int32) (x : Int32) (hR : s_X5_reportPart F u v1 v2 = some x) : ev_A yX5_reportPart mm_X5_reportPart none [.ref 0, .int v1, .int v2] (W_X5 u) (fun r w => r = some (.int x) ∧ w = W_X5 u) := by
  unfold s_X5_reportPart at hR
  refine ev_start ok_X5_reportPart (by decide +kernel) rfl rfl (Nat.le_of_ble_eq_true rfl) ?_
  obtain ⟨h1, hR⟩ := lf_g hR
  refine ev_run (cs := [lf_ix ((377 + (5 * v1)) + v2) 20377]) (pc' := 14) (L' := [some (.ref 0), some (.int v1), some (.int v2)]) (st' := [.int ((a_X5_state u) (((377 + (5 * v1)) + v2).toNatClampNeg))]) (w' := W_X5 u) [] 10 (by with_unfolding_all rfl) (h1) ?_
  cases hR
  exact ev_exit ⟨_, _, rfl, ⟨rfl, Or.inl rfl⟩, ⟨rfl, rfl⟩, Nat.le_refl _, Nat.le_refl _⟩

def s_X5_truth_b96 (F : Nat) (u : S_X5) (v1 : Int32) (v2 : Int32) : Option Int32 := (s_X5_lives F u v1).bind fun y1 => (if y1 then (some (v2)) else (some (0)))
set_option maxHeartbeats 4000000 in
set_option maxRecDepth 20000 in
theorem t_X5_truth_b96 (F : Nat) (u : S_X5) (v1 : Int32) (v2 : Int32) (x : Int32)  (hR : s_X5_truth_b96 F u v1 v2 = some x) : ev_V mm_X5_truth none (ev_XR mm_X5_truth (fun r w => r = some (.int x) ∧ w = W_X5 u)) 96 [some (.ref 0), some (.int v1), some (.int v2), none, none] [] (W_X5 u) 0 0 := by
  unfold s_X5_truth_b96 at hR
  refine ev_run (cs := []) (pc' := 98) (L' := [some (.ref 0), some (.int v1), some (.int v2), none, none]) (st' := [.int v1, .ref 0]) (w' := W_X5 u) [] 2 (by with_unfolding_all rfl) trivial ?_
  obtain ⟨y1, h1, hR⟩ := lf_b hR
  refine ev_callV1 0 (t_X5_lives F u v1 _ h1) cv_X5_lives ml_X5_54 rfl rfl rfl (Nat.le_of_ble_eq_true rfl) (by with_unfolding_all rfl) (Nat.le_of_ble_eq_true rfl) ⟨Nat.le_of_ble_eq_true rfl, Nat.le_of_ble_eq_true rfl⟩ ⟨Nat.le_refl _, Nat.le_refl _⟩ ?_ ?_
  · rintro r w ⟨rfl, rfl⟩; rfl
  rintro r w ⟨rfl, rfl⟩
  refine ev_nx (pc' := 101) (st' := [.int (ev_b y1)]) (w' := W_X5 u) rfl rfl (by with_unfolding_all rfl) rfl rfl ?_
  refine ev_br rfl rfl (fun h2 => ?_) (fun h2 => ?_)
  · replace hR := lf_z0 h2 hR
    refine ev_run (cs := []) (pc' := 109) (L' := [some (.ref 0), some (.int v1), some (.int v2), none, none]) (st' := [.int 0]) (w' := W_X5 u) [] 1 (by with_unfolding_all rfl) trivial ?_
    cases hR
    exact ev_exit ⟨_, _, rfl, ⟨rfl, Or.inl rfl⟩, ⟨rfl, rfl⟩, Nat.le_refl _, Nat.le_refl _⟩
  · replace hR := lf_z1 h2 hR
    refine ev_run (cs := []) (pc' := 109) (L' := [some (.ref 0), some (.int v1), some (.int v2), none, none]) (st' := [.int v2]) (w' := W_X5 u) [] 2 (by with_unfolding_all rfl) trivial ?_
    cases hR
    exact ev_exit ⟨_, _, rfl, ⟨rfl, Or.inl rfl⟩, ⟨rfl, rfl⟩, Nat.le_refl _, Nat.le_refl _⟩

def s_X5_truth_l51 (F : Nat) (u : S_X5) (v1 : Int32) (v3 : Int32) (k38 : Int32 → Int32 → Option Int32) : Nat → Int32 → Int32 → Option Int32
  | 0 => fun _ _ => none
  | n + 1 => fun v2 v4 => if 4 ≤ v4 then (k38 v2 (v3 + 1)) else ((s_X5_lives F u v3).bind fun y1 => (if y1 then ((s_X5_slotOf F u v3 v4).bind fun y2 => (if y2 = v1 then (s_X5_truth_l51 F u v1 v3 k38 n (v2 + 1) (v4 + 1)) else (s_X5_truth_l51 F u v1 v3 k38 n (v2 + 0) (v4 + 1)))) else (k38 v2 (v3 + 1))))
theorem e_X5_truth_l51 (F : Nat) (u : S_X5) (v1 : Int32) (v3 : Int32) (k38 : Int32 → Int32 → Option Int32) (n : Nat) (v2 : Int32) (v4 : Int32) : s_X5_truth_l51 F u v1 v3 k38 (n + 1) v2 v4 = if 4 ≤ v4 then (k38 v2 (v3 + 1)) else ((s_X5_lives F u v3).bind fun y1 => (if y1 then ((s_X5_slotOf F u v3 v4).bind fun y2 => (if y2 = v1 then (s_X5_truth_l51 F u v1 v3 k38 n (v2 + 1) (v4 + 1)) else (s_X5_truth_l51 F u v1 v3 k38 n (v2 + 0) (v4 + 1)))) else (k38 v2 (v3 + 1)))) := rfl
set_option maxHeartbeats 4000000 in
set_option maxRecDepth 20000 in
theorem t_X5_truth_l51 (F : Nat) (u : S_X5) (v1 : Int32) (v3 : Int32) (k38 : Int32 → Int32 → Option Int32) (x : Int32) (hk38 : ∀ (v2 : Int32) (v3 : Int32), k38 v2 v3 = some x → ev_V mm_X5_truth none (ev_XR mm_X5_truth (fun r w => r = some (.int x) ∧ w = W_X5 u)) 38 [some (.ref 0), some (.int v1), some (.int v2), some (.int v3), none] [] (W_X5 u) 0 0) : ∀ (n : Nat) (v2 : Int32) (v4 : Int32), s_X5_truth_l51 F u v1 v3 k38 n v2 v4 = some x → ev_V mm_X5_truth none (ev_XR mm_X5_truth (fun r w => r = some (.int x) ∧ w = W_X5 u)) 51 [some (.ref 0), some (.int v1), some (.int v2), some (.int v3), some (.int v4)] [] (W_X5 u) 0 0 := by
  intro n
  induction n with
  | zero => intro v2 v4 hR; cases hR
  | succ n hk51 =>
    intro v2 v4 hR
    unfold s_X5_truth_l51 at hR
    refine ev_run (cs := []) (pc' := 54) (L' := [some (.ref 0), some (.int v1), some (.int v2), some (.int v3), some (.int v4)]) (st' := [.int 4, .int v4]) (w' := W_X5 u) [] 2 (by with_unfolding_all rfl) trivial ?_
    refine ev_br rfl rfl (fun h1 => ?_) (fun h1 => ?_)
    · replace hR := lf_t h1 hR
      refine ev_run (cs := []) (pc' := 38) (L' := [some (.ref 0), some (.int v1), some (.int v2), some (.int (v3 + 1)), some (.int v4)]) (st' := []) (w' := W_X5 u) [] 2 (by with_unfolding_all rfl) trivial ?_
      exact ev_to2 (hk38 _ _ hR) ⟨rfl, rfl, rfl, rfl, trivial⟩ rfl rfl
    · replace hR := lf_f h1 hR
      refine ev_run (cs := []) (pc' := 59) (L' := [some (.ref 0), some (.int v1), some (.int v2), some (.int v3), some (.int v4)]) (st' := [.int v3, .ref 0]) (w' := W_X5 u) [] 2 (by with_unfolding_all rfl) trivial ?_
      obtain ⟨y1, h2, hR⟩ := lf_b hR
      refine ev_callV1 0 (t_X5_lives F u v3 _ h2) cv_X5_lives ml_X5_54 rfl rfl rfl (Nat.le_of_ble_eq_true rfl) (by with_unfolding_all rfl) (Nat.le_of_ble_eq_true rfl) ⟨Nat.le_of_ble_eq_true rfl, Nat.le_of_ble_eq_true rfl⟩ ⟨Nat.le_refl _, Nat.le_refl _⟩ ?_ ?_
      · rintro r w ⟨rfl, rfl⟩; rfl
      rintro r w ⟨rfl, rfl⟩
      refine ev_nx (pc' := 62) (st' := [.int (ev_b y1)]) (w' := W_X5 u) rfl rfl (by with_unfolding_all rfl) rfl rfl ?_
      refine ev_br rfl rfl (fun h3 => ?_) (fun h3 => ?_)
      · replace hR := lf_z0 h3 hR
        refine ev_run (cs := []) (pc' := 38) (L' := [some (.ref 0), some (.int v1), some (.int v2), some (.int (v3 + 1)), some (.int v4)]) (st' := []) (w' := W_X5 u) [] 2 (by with_unfolding_all rfl) trivial ?_
        exact ev_to2 (hk38 _ _ hR) ⟨rfl, rfl, rfl, rfl, trivial⟩ rfl rfl
      · replace hR := lf_z1 h3 hR
        refine ev_run (cs := []) (pc' := 70) (L' := [some (.ref 0), some (.int v1), some (.int v2), some (.int v3), some (.int v4)]) (st' := [.int v4, .int v3, .ref 0, .int v2]) (w' := W_X5 u) [] 4 (by with_unfolding_all rfl) trivial ?_
        obtain ⟨y2, h4, hR⟩ := lf_b hR
        refine ev_callV1 0 (t_X5_slotOf F u v3 v4 _ h4) cv_X5_slotOf ml_X5_58 rfl rfl rfl (Nat.le_of_ble_eq_true rfl) (by with_unfolding_all rfl) (Nat.le_of_ble_eq_true rfl) ⟨Nat.le_of_ble_eq_true rfl, Nat.le_of_ble_eq_true rfl⟩ ⟨Nat.le_refl _, Nat.le_refl _⟩ ?_ ?_
        · rintro r w ⟨rfl, rfl⟩; rfl
        rintro r w ⟨rfl, rfl⟩
        refine ev_nx (pc' := 73) (st' := [.int y2, .int v2]) (w' := W_X5 u) rfl rfl (by with_unfolding_all rfl) rfl rfl ?_
        refine ev_run (cs := []) (pc' := 74) (L' := [some (.ref 0), some (.int v1), some (.int v2), some (.int v3), some (.int v4)]) (st' := [.int v1, .int y2, .int v2]) (w' := W_X5 u) [] 1 (by with_unfolding_all rfl) trivial ?_
        refine ev_br rfl rfl (fun h5 => ?_) (fun h5 => ?_)
        · replace hR := lf_f h5 hR
          refine ev_run (cs := []) (pc' := 51) (L' := [some (.ref 0), some (.int v1), some (.int (v2 + 0)), some (.int v3), some (.int (v4 + 1))]) (st' := []) (w' := W_X5 u) [] 5 (by with_unfolding_all rfl) trivial ?_
          exact ev_to2 (hk51 _ _ hR) ⟨rfl, rfl, rfl, rfl, rfl, trivial⟩ rfl rfl
        · replace hR := lf_t h5 hR
          refine ev_run (cs := []) (pc' := 51) (L' := [some (.ref 0), some (.int v1), some (.int (v2 + 1)), some (.int v3), some (.int (v4 + 1))]) (st' := []) (w' := W_X5 u) [] 6 (by with_unfolding_all rfl) trivial ?_
          exact ev_to2 (hk51 _ _ hR) ⟨rfl, rfl, rfl, rfl, rfl, trivial⟩ rfl rfl

def s_X5_truth_l38 (F : Nat) (u : S_X5) (v1 : Int32) : Nat → Int32 → Int32 → Option Int32
  | 0 => fun _ _ => none
  | n + 1 => fun v2 v3 => if ((a_X5_state u) (1 : Int32).toNatClampNeg) ≤ v3 then (s_X5_truth_b96 F u v1 v2) else (s_X5_truth_l51 F u v1 v3 (s_X5_truth_l38 F u v1 n) F v2 0)
theorem e_X5_truth_l38 (F : Nat) (u : S_X5) (v1 : Int32) (n : Nat) (v2 : Int32) (v3 : Int32) : s_X5_truth_l38 F u v1 (n + 1) v2 v3 = if ((a_X5_state u) (1 : Int32).toNatClampNeg) ≤ v3 then (s_X5_truth_b96 F u v1 v2) else (s_X5_truth_l51 F u v1 v3 (s_X5_truth_l38 F u v1 n) F v2 0) := rfl
set_option maxHeartbeats 4000000 in
set_option maxRecDepth 20000 in
theorem t_X5_truth_l38 (F : Nat) (u : S_X5) (v1 : Int32) (x : Int32)  : ∀ (n : Nat) (v2 : Int32) (v3 : Int32), s_X5_truth_l38 F u v1 n v2 v3 = some x → ev_V mm_X5_truth none (ev_XR mm_X5_truth (fun r w => r = some (.int x) ∧ w = W_X5 u)) 38 [some (.ref 0), some (.int v1), some (.int v2), some (.int v3), none] [] (W_X5 u) 0 0 := by
  intro n
  induction n with
  | zero => intro v2 v3 hR; cases hR
  | succ n hk38 =>
    intro v2 v3 hR
    unfold s_X5_truth_l38 at hR
    refine ev_run (cs := [lf_ix 1 20377]) (pc' := 45) (L' := [some (.ref 0), some (.int v1), some (.int v2), some (.int v3), none]) (st' := [.int ((a_X5_state u) (1 : Int32).toNatClampNeg), .int v3]) (w' := W_X5 u) [] 5 (by with_unfolding_all rfl) (by show ¬ _; decide) ?_
    refine ev_br rfl rfl (fun h1 => ?_) (fun h1 => ?_)
    · replace hR := lf_t h1 hR
      exact ev_to2 (t_X5_truth_b96 F u v1 v2 _ hR) ⟨rfl, rfl, rfl, trivial⟩ rfl rfl
    · replace hR := lf_f h1 hR
      refine ev_run (cs := []) (pc' := 51) (L' := [some (.ref 0), some (.int v1), some (.int v2), some (.int v3), some (.int 0)]) (st' := []) (w' := W_X5 u) [] 2 (by with_unfolding_all rfl) trivial ?_
      exact ev_to2 (t_X5_truth_l51 F u v1 v3 (s_X5_truth_l38 F u v1 n) _ hk38 F v2 0 hR) ⟨rfl, rfl, rfl, rfl, rfl, trivial⟩ rfl rfl

def s_X5_truth_l4 (F : Nat) (u : S_X5) (v1 : Int32) : Nat → Int32 → Int32 → Option Int32
  | 0 => fun _ _ => none
  | n + 1 => fun v2 v3 => if 4 ≤ v3 then (s_X5_truth_l38 F u v1 F v2 0) else (if lf_ix (13 + v3) 20377 then (if ((a_X5_state u) ((13 + v3).toNatClampNeg)) = v1 then (s_X5_truth_l4 F u v1 n (v2 + 1) (v3 + 1)) else (s_X5_truth_l4 F u v1 n (v2 + 0) (v3 + 1))) else none)
theorem e_X5_truth_l4 (F : Nat) (u : S_X5) (v1 : Int32) (n : Nat) (v2 : Int32) (v3 : Int32) : s_X5_truth_l4 F u v1 (n + 1) v2 v3 = if 4 ≤ v3 then (s_X5_truth_l38 F u v1 F v2 0) else (if lf_ix (13 + v3) 20377 then (if ((a_X5_state u) ((13 + v3).toNatClampNeg)) = v1 then (s_X5_truth_l4 F u v1 n (v2 + 1) (v3 + 1)) else (s_X5_truth_l4 F u v1 n (v2 + 0) (v3 + 1))) else none) := rfl
set_option maxHeartbeats 4000000 in
set_option maxRecDepth 20000 in
theorem t_X5_truth_l4 (F : Nat) (u : S_X5) (v1 : Int32) (x : Int32)  : ∀ (n : Nat) (v2 : Int32) (v3 : Int32), s_X5_truth_l4 F u v1 n v2 v3 = some x → ev_V mm_X5_truth none (ev_XR mm_X5_truth (fun r w => r = some (.int x) ∧ w = W_X5 u)) 4 [some (.ref 0), some (.int v1), some (.int v2), some (.int v3), none] [] (W_X5 u) 0 0 := by
  intro n
  induction n with
  | zero => intro v2 v3 hR; cases hR
  | succ n hk4 =>
    intro v2 v3 hR
    unfold s_X5_truth_l4 at hR
    refine ev_run (cs := []) (pc' := 6) (L' := [some (.ref 0), some (.int v1), some (.int v2), some (.int v3), none]) (st' := [.int 4, .int v3]) (w' := W_X5 u) [] 2 (by with_unfolding_all rfl) trivial ?_
    refine ev_br rfl rfl (fun h1 => ?_) (fun h1 => ?_)
    · replace hR := lf_t h1 hR
      refine ev_run (cs := []) (pc' := 38) (L' := [some (.ref 0), some (.int v1), some (.int v2), some (.int 0), none]) (st' := []) (w' := W_X5 u) [] 2 (by with_unfolding_all rfl) trivial ?_
      exact ev_to2 (t_X5_truth_l38 F u v1 _ F v2 0 hR) ⟨rfl, rfl, rfl, rfl, trivial⟩ rfl rfl
    · replace hR := lf_f h1 hR
      obtain ⟨h2, hR⟩ := lf_g hR
      refine ev_run (cs := [lf_ix (13 + v3) 20377]) (pc' := 20) (L' := [some (.ref 0), some (.int v1), some (.int v2), some (.int v3), none]) (st' := [.int v1, .int ((a_X5_state u) ((13 + v3).toNatClampNeg)), .int v2]) (w' := W_X5 u) [] 8 (by with_unfolding_all rfl) (h2) ?_
      refine ev_br rfl rfl (fun h3 => ?_) (fun h3 => ?_)
      · replace hR := lf_f h3 hR
        refine ev_run (cs := []) (pc' := 4) (L' := [some (.ref 0), some (.int v1), some (.int (v2 + 0)), some (.int (v3 + 1)), none]) (st' := []) (w' := W_X5 u) [] 5 (by with_unfolding_all rfl) trivial ?_
        exact ev_to2 (hk4 _ _ hR) ⟨rfl, rfl, rfl, rfl, trivial⟩ rfl rfl
      · replace hR := lf_t h3 hR
        refine ev_run (cs := []) (pc' := 4) (L' := [some (.ref 0), some (.int v1), some (.int (v2 + 1)), some (.int (v3 + 1)), none]) (st' := []) (w' := W_X5 u) [] 6 (by with_unfolding_all rfl) trivial ?_
        exact ev_to2 (hk4 _ _ hR) ⟨rfl, rfl, rfl, rfl, trivial⟩ rfl rfl

def s_X5_truth (F : Nat) (u : S_X5) (v1 : Int32) : Option Int32 := s_X5_truth_l4 F u v1 F 0 0
set_option maxHeartbeats 4000000 in
set_option maxRecDepth 20000 in
theorem t_X5_truth (F : Nat) (u : S_X5) (v1 : Int32) (x : Int32) (hR : s_X5_truth F u v1 = some x) : ev_A yX5_truth mm_X5_truth none [.ref 0, .int v1] (W_X5 u) (fun r w => r = some (.int x) ∧ w = W_X5 u) := by
  unfold s_X5_truth at hR
  refine ev_start ok_X5_truth (by decide +kernel) rfl rfl (Nat.le_of_ble_eq_true rfl) ?_
  refine ev_run (cs := []) (pc' := 4) (L' := [some (.ref 0), some (.int v1), some (.int 0), some (.int 0), none]) (st' := []) (w' := W_X5 u) [] 4 (by with_unfolding_all rfl) trivial ?_
  exact ev_to2 (t_X5_truth_l4 F u v1 _ F 0 0 hR) ⟨rfl, rfl, rfl, rfl, trivial⟩ rfl rfl

def s_X5_underWay_l4 (F : Nat) (u : S_X5) (v1 : Int32) : Nat → Int32 → Int32 → Option Int32
  | 0 => fun _ _ => none
  | n + 1 => fun v2 v3 => if ((a_X5_state u) (3 : Int32).toNatClampNeg) ≤ v3 then (some (v2)) else ((s_X5_reportPart F u v3 1).bind fun y1 => (if y1 = v1 then (s_X5_underWay_l4 F u v1 n (v2 + 1) (v3 + 1)) else (s_X5_underWay_l4 F u v1 n (v2 + 0) (v3 + 1))))
theorem e_X5_underWay_l4 (F : Nat) (u : S_X5) (v1 : Int32) (n : Nat) (v2 : Int32) (v3 : Int32) : s_X5_underWay_l4 F u v1 (n + 1) v2 v3 = if ((a_X5_state u) (3 : Int32).toNatClampNeg) ≤ v3 then (some (v2)) else ((s_X5_reportPart F u v3 1).bind fun y1 => (if y1 = v1 then (s_X5_underWay_l4 F u v1 n (v2 + 1) (v3 + 1)) else (s_X5_underWay_l4 F u v1 n (v2 + 0) (v3 + 1)))) := rfl
set_option maxHeartbeats 4000000 in
set_option maxRecDepth 20000 in
theorem t_X5_underWay_l4 (F : Nat) (u : S_X5) (v1 : Int32) (x : Int32)  : ∀ (n : Nat) (v2 : Int32) (v3 : Int32), s_X5_underWay_l4 F u v1 n v2 v3 = some x → ev_V mm_X5_underWay none (ev_XR mm_X5_underWay (fun r w => r = some (.int x) ∧ w = W_X5 u)) 4 [some (.ref 0), some (.int v1), some (.int v2), some (.int v3)] [] (W_X5 u) 0 0 := by
  intro n
  induction n with
  | zero => intro v2 v3 hR; cases hR
  | succ n hk4 =>
    intro v2 v3 hR
    unfold s_X5_underWay_l4 at hR
    refine ev_run (cs := [lf_ix 3 20377]) (pc' := 11) (L' := [some (.ref 0), some (.int v1), some (.int v2), some (.int v3)]) (st' := [.int ((a_X5_state u) (3 : Int32).toNatClampNeg), .int v3]) (w' := W_X5 u) [] 5 (by with_unfolding_all rfl) (by show ¬ _; decide) ?_
    refine ev_br rfl rfl (fun h1 => ?_) (fun h1 => ?_)
    · replace hR := lf_t h1 hR
      refine ev_run (cs := []) (pc' := 39) (L' := [some (.ref 0), some (.int v1), some (.int v2), some (.int v3)]) (st' := [.int v2]) (w' := W_X5 u) [] 1 (by with_unfolding_all rfl) trivial ?_
      cases hR
      exact ev_exit ⟨_, _, rfl, ⟨rfl, Or.inl rfl⟩, ⟨rfl, rfl⟩, Nat.le_refl _, Nat.le_refl _⟩
    · replace hR := lf_f h1 hR
      refine ev_run (cs := []) (pc' := 18) (L' := [some (.ref 0), some (.int v1), some (.int v2), some (.int v3)]) (st' := [.int 1, .int v3, .ref 0, .int v2]) (w' := W_X5 u) [] 4 (by with_unfolding_all rfl) trivial ?_
      obtain ⟨y1, h2, hR⟩ := lf_b hR
      refine ev_callV1 0 (t_X5_reportPart F u v3 1 _ h2) cv_X5_reportPart ml_X5_61 rfl rfl rfl (Nat.le_of_ble_eq_true rfl) (by with_unfolding_all rfl) (Nat.le_of_ble_eq_true rfl) ⟨Nat.le_of_ble_eq_true rfl, Nat.le_of_ble_eq_true rfl⟩ ⟨Nat.le_refl _, Nat.le_refl _⟩ ?_ ?_
      · rintro r w ⟨rfl, rfl⟩; rfl
      rintro r w ⟨rfl, rfl⟩
      refine ev_nx (pc' := 21) (st' := [.int y1, .int v2]) (w' := W_X5 u) rfl rfl (by with_unfolding_all rfl) rfl rfl ?_
      refine ev_run (cs := []) (pc' := 22) (L' := [some (.ref 0), some (.int v1), some (.int v2), some (.int v3)]) (st' := [.int v1, .int y1, .int v2]) (w' := W_X5 u) [] 1 (by with_unfolding_all rfl) trivial ?_
      refine ev_br rfl rfl (fun h3 => ?_) (fun h3 => ?_)
      · replace hR := lf_f h3 hR
        refine ev_run (cs := []) (pc' := 4) (L' := [some (.ref 0), some (.int v1), some (.int (v2 + 0)), some (.int (v3 + 1))]) (st' := []) (w' := W_X5 u) [] 5 (by with_unfolding_all rfl) trivial ?_
        exact ev_to2 (hk4 _ _ hR) ⟨rfl, rfl, rfl, rfl, trivial⟩ rfl rfl
      · replace hR := lf_t h3 hR
        refine ev_run (cs := []) (pc' := 4) (L' := [some (.ref 0), some (.int v1), some (.int (v2 + 1)), some (.int (v3 + 1))]) (st' := []) (w' := W_X5 u) [] 6 (by with_unfolding_all rfl) trivial ?_
        exact ev_to2 (hk4 _ _ hR) ⟨rfl, rfl, rfl, rfl, trivial⟩ rfl rfl

def s_X5_underWay (F : Nat) (u : S_X5) (v1 : Int32) : Option Int32 := s_X5_underWay_l4 F u v1 F 0 0
set_option maxHeartbeats 4000000 in
set_option maxRecDepth 20000 in
theorem t_X5_underWay (F : Nat) (u : S_X5) (v1 : Int32) (x : Int32) (hR : s_X5_underWay F u v1 = some x) : ev_A yX5_underWay mm_X5_underWay none [.ref 0, .int v1] (W_X5 u) (fun r w => r = some (.int x) ∧ w = W_X5 u) := by
  unfold s_X5_underWay at hR
  refine ev_start ok_X5_underWay (by decide +kernel) rfl rfl (Nat.le_of_ble_eq_true rfl) ?_
  refine ev_run (cs := []) (pc' := 4) (L' := [some (.ref 0), some (.int v1), some (.int 0), some (.int 0)]) (st' := []) (w' := W_X5 u) [] 4 (by with_unfolding_all rfl) trivial ?_
  exact ev_to2 (t_X5_underWay_l4 F u v1 _ F 0 0 hR) ⟨rfl, rfl, rfl, rfl, trivial⟩ rfl rfl

def s_X5_sumUnderWay_l4 (F : Nat) (u : S_X5) (v1 : Int32) : Nat → Int32 → Int32 → Option Int32
  | 0 => fun _ _ => none
  | n + 1 => fun v2 v3 => if ((a_X5_state u) (3 : Int32).toNatClampNeg) ≤ v3 then (some (v2)) else ((s_X5_reportPart F u v3 1).bind fun y1 => (if y1 = v1 then ((s_X5_reportPart F u v3 2).bind fun y2 => (s_X5_sumUnderWay_l4 F u v1 n (v2 + y2) (v3 + 1))) else (s_X5_sumUnderWay_l4 F u v1 n (v2 + 0) (v3 + 1))))
theorem e_X5_sumUnderWay_l4 (F : Nat) (u : S_X5) (v1 : Int32) (n : Nat) (v2 : Int32) (v3 : Int32) : s_X5_sumUnderWay_l4 F u v1 (n + 1) v2 v3 = if ((a_X5_state u) (3 : Int32).toNatClampNeg) ≤ v3 then (some (v2)) else ((s_X5_reportPart F u v3 1).bind fun y1 => (if y1 = v1 then ((s_X5_reportPart F u v3 2).bind fun y2 => (s_X5_sumUnderWay_l4 F u v1 n (v2 + y2) (v3 + 1))) else (s_X5_sumUnderWay_l4 F u v1 n (v2 + 0) (v3 + 1)))) := rfl
set_option maxHeartbeats 4000000 in
set_option maxRecDepth 20000 in
theorem t_X5_sumUnderWay_l4 (F : Nat) (u : S_X5) (v1 : Int32) (x : Int32)  : ∀ (n : Nat) (v2 : Int32) (v3 : Int32), s_X5_sumUnderWay_l4 F u v1 n v2 v3 = some x → ev_V mm_X5_sumUnderWay none (ev_XR mm_X5_sumUnderWay (fun r w => r = some (.int x) ∧ w = W_X5 u)) 4 [some (.ref 0), some (.int v1), some (.int v2), some (.int v3)] [] (W_X5 u) 0 0 := by
  intro n
  induction n with
  | zero => intro v2 v3 hR; cases hR
  | succ n hk4 =>
    intro v2 v3 hR
    unfold s_X5_sumUnderWay_l4 at hR
    refine ev_run (cs := [lf_ix 3 20377]) (pc' := 11) (L' := [some (.ref 0), some (.int v1), some (.int v2), some (.int v3)]) (st' := [.int ((a_X5_state u) (3 : Int32).toNatClampNeg), .int v3]) (w' := W_X5 u) [] 5 (by with_unfolding_all rfl) (by show ¬ _; decide) ?_
    refine ev_br rfl rfl (fun h1 => ?_) (fun h1 => ?_)
    · replace hR := lf_t h1 hR
      refine ev_run (cs := []) (pc' := 44) (L' := [some (.ref 0), some (.int v1), some (.int v2), some (.int v3)]) (st' := [.int v2]) (w' := W_X5 u) [] 1 (by with_unfolding_all rfl) trivial ?_
      cases hR
      exact ev_exit ⟨_, _, rfl, ⟨rfl, Or.inl rfl⟩, ⟨rfl, rfl⟩, Nat.le_refl _, Nat.le_refl _⟩
    · replace hR := lf_f h1 hR
      refine ev_run (cs := []) (pc' := 18) (L' := [some (.ref 0), some (.int v1), some (.int v2), some (.int v3)]) (st' := [.int 1, .int v3, .ref 0, .int v2]) (w' := W_X5 u) [] 4 (by with_unfolding_all rfl) trivial ?_
      obtain ⟨y1, h2, hR⟩ := lf_b hR
      refine ev_callV1 0 (t_X5_reportPart F u v3 1 _ h2) cv_X5_reportPart ml_X5_61 rfl rfl rfl (Nat.le_of_ble_eq_true rfl) (by with_unfolding_all rfl) (Nat.le_of_ble_eq_true rfl) ⟨Nat.le_of_ble_eq_true rfl, Nat.le_of_ble_eq_true rfl⟩ ⟨Nat.le_refl _, Nat.le_refl _⟩ ?_ ?_
      · rintro r w ⟨rfl, rfl⟩; rfl
      rintro r w ⟨rfl, rfl⟩
      refine ev_nx (pc' := 21) (st' := [.int y1, .int v2]) (w' := W_X5 u) rfl rfl (by with_unfolding_all rfl) rfl rfl ?_
      refine ev_run (cs := []) (pc' := 22) (L' := [some (.ref 0), some (.int v1), some (.int v2), some (.int v3)]) (st' := [.int v1, .int y1, .int v2]) (w' := W_X5 u) [] 1 (by with_unfolding_all rfl) trivial ?_
      refine ev_br rfl rfl (fun h3 => ?_) (fun h3 => ?_)
      · replace hR := lf_f h3 hR
        refine ev_run (cs := []) (pc' := 4) (L' := [some (.ref 0), some (.int v1), some (.int (v2 + 0)), some (.int (v3 + 1))]) (st' := []) (w' := W_X5 u) [] 5 (by with_unfolding_all rfl) trivial ?_
        exact ev_to2 (hk4 _ _ hR) ⟨rfl, rfl, rfl, rfl, trivial⟩ rfl rfl
      · replace hR := lf_t h3 hR
        refine ev_run (cs := []) (pc' := 28) (L' := [some (.ref 0), some (.int v1), some (.int v2), some (.int v3)]) (st' := [.int 2, .int v3, .ref 0, .int v2]) (w' := W_X5 u) [] 3 (by with_unfolding_all rfl) trivial ?_
        obtain ⟨y2, h4, hR⟩ := lf_b hR
        refine ev_callV1 0 (t_X5_reportPart F u v3 2 _ h4) cv_X5_reportPart ml_X5_61 rfl rfl rfl (Nat.le_of_ble_eq_true rfl) (by with_unfolding_all rfl) (Nat.le_of_ble_eq_true rfl) ⟨Nat.le_of_ble_eq_true rfl, Nat.le_of_ble_eq_true rfl⟩ ⟨Nat.le_refl _, Nat.le_refl _⟩ ?_ ?_
        · rintro r w ⟨rfl, rfl⟩; rfl
        rintro r w ⟨rfl, rfl⟩
        refine ev_nx (pc' := 31) (st' := [.int y2, .int v2]) (w' := W_X5 u) rfl rfl (by with_unfolding_all rfl) rfl rfl ?_
        refine ev_run (cs := []) (pc' := 4) (L' := [some (.ref 0), some (.int v1), some (.int (v2 + y2)), some (.int (v3 + 1))]) (st' := []) (w' := W_X5 u) [] 5 (by with_unfolding_all rfl) trivial ?_
        exact ev_to2 (hk4 _ _ hR) ⟨rfl, rfl, rfl, rfl, trivial⟩ rfl rfl

def s_X5_sumUnderWay (F : Nat) (u : S_X5) (v1 : Int32) : Option Int32 := s_X5_sumUnderWay_l4 F u v1 F 0 0
set_option maxHeartbeats 4000000 in
set_option maxRecDepth 20000 in
theorem t_X5_sumUnderWay (F : Nat) (u : S_X5) (v1 : Int32) (x : Int32) (hR : s_X5_sumUnderWay F u v1 = some x) : ev_A yX5_sumUnderWay mm_X5_sumUnderWay none [.ref 0, .int v1] (W_X5 u) (fun r w => r = some (.int x) ∧ w = W_X5 u) := by
  unfold s_X5_sumUnderWay at hR
  refine ev_start ok_X5_sumUnderWay (by decide +kernel) rfl rfl (Nat.le_of_ble_eq_true rfl) ?_
  refine ev_run (cs := []) (pc' := 4) (L' := [some (.ref 0), some (.int v1), some (.int 0), some (.int 0)]) (st' := []) (w' := W_X5 u) [] 4 (by with_unfolding_all rfl) trivial ?_
  exact ev_to2 (t_X5_sumUnderWay_l4 F u v1 _ F 0 0 hR) ⟨rfl, rfl, rfl, rfl, trivial⟩ rfl rfl

def s_X5_suspects_l4 (F : Nat) (u : S_X5) : Nat → Int32 → Int32 → Option Int32
  | 0 => fun _ _ => none
  | n + 1 => fun v1 v2 => if ((a_X5_state u) (1 : Int32).toNatClampNeg) ≤ v2 then (some (v1)) else ((s_X5_part F u v2 3).bind fun y1 => (s_X5_suspects_l4 F u n (v1 + y1) (v2 + 1)))
theorem e_X5_suspects_l4 (F : Nat) (u : S_X5) (n : Nat) (v1 : Int32) (v2 : Int32) : s_X5_suspects_l4 F u (n + 1) v1 v2 = if ((a_X5_state u) (1 : Int32).toNatClampNeg) ≤ v2 then (some (v1)) else ((s_X5_part F u v2 3).bind fun y1 => (s_X5_suspects_l4 F u n (v1 + y1) (v2 + 1))) := rfl
set_option maxHeartbeats 4000000 in
set_option maxRecDepth 20000 in
theorem t_X5_suspects_l4 (F : Nat) (u : S_X5) (x : Int32)  : ∀ (n : Nat) (v1 : Int32) (v2 : Int32), s_X5_suspects_l4 F u n v1 v2 = some x → ev_V mm_X5_suspects none (ev_XR mm_X5_suspects (fun r w => r = some (.int x) ∧ w = W_X5 u)) 4 [some (.ref 0), some (.int v1), some (.int v2)] [] (W_X5 u) 0 0 := by
  intro n
  induction n with
  | zero => intro v1 v2 hR; cases hR
  | succ n hk4 =>
    intro v1 v2 hR
    unfold s_X5_suspects_l4 at hR
    refine ev_run (cs := [lf_ix 1 20377]) (pc' := 11) (L' := [some (.ref 0), some (.int v1), some (.int v2)]) (st' := [.int ((a_X5_state u) (1 : Int32).toNatClampNeg), .int v2]) (w' := W_X5 u) [] 5 (by with_unfolding_all rfl) (by show ¬ _; decide) ?_
    refine ev_br rfl rfl (fun h1 => ?_) (fun h1 => ?_)
    · replace hR := lf_t h1 hR
      refine ev_run (cs := []) (pc' := 30) (L' := [some (.ref 0), some (.int v1), some (.int v2)]) (st' := [.int v1]) (w' := W_X5 u) [] 1 (by with_unfolding_all rfl) trivial ?_
      cases hR
      exact ev_exit ⟨_, _, rfl, ⟨rfl, Or.inl rfl⟩, ⟨rfl, rfl⟩, Nat.le_refl _, Nat.le_refl _⟩
    · replace hR := lf_f h1 hR
      refine ev_run (cs := []) (pc' := 18) (L' := [some (.ref 0), some (.int v1), some (.int v2)]) (st' := [.int 3, .int v2, .ref 0, .int v1]) (w' := W_X5 u) [] 4 (by with_unfolding_all rfl) trivial ?_
      obtain ⟨y1, h2, hR⟩ := lf_b hR
      refine ev_callV1 0 (t_X5_part F u v2 3 _ h2) cv_X5_part ml_X5_50 rfl rfl rfl (Nat.le_of_ble_eq_true rfl) (by with_unfolding_all rfl) (Nat.le_of_ble_eq_true rfl) ⟨Nat.le_of_ble_eq_true rfl, Nat.le_of_ble_eq_true rfl⟩ ⟨Nat.le_refl _, Nat.le_refl _⟩ ?_ ?_
      · rintro r w ⟨rfl, rfl⟩; rfl
      rintro r w ⟨rfl, rfl⟩
      refine ev_nx (pc' := 21) (st' := [.int y1, .int v1]) (w' := W_X5 u) rfl rfl (by with_unfolding_all rfl) rfl rfl ?_
      refine ev_run (cs := []) (pc' := 4) (L' := [some (.ref 0), some (.int (v1 + y1)), some (.int (v2 + 1))]) (st' := []) (w' := W_X5 u) [] 4 (by with_unfolding_all rfl) trivial ?_
      exact ev_to2 (hk4 _ _ hR) ⟨rfl, rfl, rfl, trivial⟩ rfl rfl

def s_X5_suspects (F : Nat) (u : S_X5) : Option Int32 := s_X5_suspects_l4 F u F 0 0
set_option maxHeartbeats 4000000 in
set_option maxRecDepth 20000 in
theorem t_X5_suspects (F : Nat) (u : S_X5) (x : Int32) (hR : s_X5_suspects F u = some x) : ev_A yX5_suspects mm_X5_suspects none [.ref 0] (W_X5 u) (fun r w => r = some (.int x) ∧ w = W_X5 u) := by
  unfold s_X5_suspects at hR
  refine ev_start ok_X5_suspects (by decide +kernel) rfl rfl (Nat.le_of_ble_eq_true rfl) ?_
  refine ev_run (cs := []) (pc' := 4) (L' := [some (.ref 0), some (.int 0), some (.int 0)]) (st' := []) (w' := W_X5 u) [] 4 (by with_unfolding_all rfl) trivial ?_
  exact ev_to2 (t_X5_suspects_l4 F u _ F 0 0 hR) ⟨rfl, rfl, rfl, trivial⟩ rfl rfl

def s_X5_clear_l2 (F : Nat) (n0 : Nat) : Nat → (Nat → Int32) → Int32 → Option (Nat → Int32)
  | 0 => fun _ _ => none
  | n + 1 => fun f v1 => if 24 ≤ v1 then (some (f)) else (if lf_ix v1 n0 then (s_X5_clear_l2 F n0 n (upd f v1.toNatClampNeg 0) (v1 + 1)) else none)
theorem e_X5_clear_l2 (F : Nat) (n0 : Nat) (n : Nat) (f : (Nat → Int32)) (v1 : Int32) : s_X5_clear_l2 F n0 (n + 1) f v1 = if 24 ≤ v1 then (some (f)) else (if lf_ix v1 n0 then (s_X5_clear_l2 F n0 n (upd f v1.toNatClampNeg 0) (v1 + 1)) else none) := rfl
set_option maxHeartbeats 4000000 in
set_option maxRecDepth 20000 in
theorem t_X5_clear_l2 (F : Nat) (n0 : Nat) (x : (Nat → Int32))  : ∀ (n : Nat) (f : (Nat → Int32)) (v1 : Int32), s_X5_clear_l2 F n0 n f v1 = some x → ev_V mm_X5_clear none (ev_XR mm_X5_clear (fun r w => r = none ∧ w = [.inl (0, n0, .inl (x))])) 2 [some (.ref 0), some (.int v1)] [] ([.inl (0, n0, .inl (f))]) 0 0 := by
  intro n
  induction n with
  | zero => intro f v1 hR; cases hR
  | succ n hk2 =>
    intro f v1 hR
    unfold s_X5_clear_l2 at hR
    refine ev_run (cs := []) (pc' := 5) (L' := [some (.ref 0), some (.int v1)]) (st' := [.int 24, .int v1]) (w' := [.inl (0, n0, .inl (f))]) [] 2 (by with_unfolding_all rfl) trivial ?_
    refine ev_br rfl rfl (fun h1 => ?_) (fun h1 => ?_)
    · replace hR := lf_t h1 hR
      cases hR
      exact ev_exit ⟨_, _, rfl, ⟨rfl, rfl⟩, ⟨rfl, rfl⟩, Nat.le_refl _, Nat.le_refl _⟩
    · replace hR := lf_f h1 hR
      obtain ⟨h2, hR⟩ := lf_g hR
      refine ev_run (cs := [lf_ix v1 n0]) (pc' := 2) (L' := [some (.ref 0), some (.int (v1 + 1))]) (st' := []) (w' := [.inl (0, n0, .inl (upd f v1.toNatClampNeg 0))]) [] 6 (by with_unfolding_all rfl) (h2) ?_
      exact ev_to2 (hk2 _ _ hR) ⟨rfl, rfl, trivial⟩ rfl rfl

def s_X5_clear (F : Nat) (n0 : Nat) (f : (Nat → Int32)) : Option (Nat → Int32) := s_X5_clear_l2 F n0 F f 0
set_option maxHeartbeats 4000000 in
set_option maxRecDepth 20000 in
theorem t_X5_clear (F : Nat) (n0 : Nat) (f : (Nat → Int32)) (x : (Nat → Int32)) (hR : s_X5_clear F n0 f = some x) : ev_A yX5_clear mm_X5_clear none [.ref 0] ([.inl (0, n0, .inl (f))]) (fun r w => r = none ∧ w = [.inl (0, n0, .inl (x))]) := by
  unfold s_X5_clear at hR
  refine ev_start ok_X5_clear (by decide +kernel) rfl rfl (Nat.le_of_ble_eq_true rfl) ?_
  refine ev_run (cs := []) (pc' := 2) (L' := [some (.ref 0), some (.int 0)]) (st' := []) (w' := [.inl (0, n0, .inl (f))]) [] 2 (by with_unfolding_all rfl) trivial ?_
  exact ev_to2 (t_X5_clear_l2 F n0 _ F f 0 hR) ⟨rfl, rfl, trivial⟩ rfl rfl

def s_X5_spread_p5_l23 (F : Nat) (v3 : Int32) (k2 : S_X5 → Int32 → Option S_X5) (k10 : S_X5 → Int32 → Int32 → Option S_X5) : Nat → S_X5 → Int32 → Int32 → Option S_X5
  | 0 => fun _ _ _ => none
  | n + 1 => fun u v2 v4 => if 4 ≤ v4 then (k10 u v2 (v3 + 1)) else (if lf_ix v3 24 then (if ((a_X5_isReached u) v3.toNatClampNeg) = 1 then ((s_X5_lives F u v3).bind fun y1 => (if y1 then ((s_X5_slotOf F u v3 v4).bind fun y2 => (if y2 = (-1) then (s_X5_spread_p5_l23 F v3 k2 k10 n u v2 (v4 + 1)) else (if lf_ix y2 24 then (if ((a_X5_isReached u) y2.toNatClampNeg) = 0 then (if lf_ix y2 24 then (s_X5_spread_p5_l23 F v3 k2 k10 n (m_X5_isReached (upd (a_X5_isReached u) y2.toNatClampNeg 1) u) 1 (v4 + 1)) else none) else (s_X5_spread_p5_l23 F v3 k2 k10 n u v2 (v4 + 1))) else none))) else (k10 u v2 (v3 + 1)))) else (k10 u v2 (v3 + 1))) else none)
theorem e_X5_spread_p5_l23 (F : Nat) (v3 : Int32) (k2 : S_X5 → Int32 → Option S_X5) (k10 : S_X5 → Int32 → Int32 → Option S_X5) (n : Nat) (u : S_X5) (v2 : Int32) (v4 : Int32) : s_X5_spread_p5_l23 F v3 k2 k10 (n + 1) u v2 v4 = if 4 ≤ v4 then (k10 u v2 (v3 + 1)) else (if lf_ix v3 24 then (if ((a_X5_isReached u) v3.toNatClampNeg) = 1 then ((s_X5_lives F u v3).bind fun y1 => (if y1 then ((s_X5_slotOf F u v3 v4).bind fun y2 => (if y2 = (-1) then (s_X5_spread_p5_l23 F v3 k2 k10 n u v2 (v4 + 1)) else (if lf_ix y2 24 then (if ((a_X5_isReached u) y2.toNatClampNeg) = 0 then (if lf_ix y2 24 then (s_X5_spread_p5_l23 F v3 k2 k10 n (m_X5_isReached (upd (a_X5_isReached u) y2.toNatClampNeg 1) u) 1 (v4 + 1)) else none) else (s_X5_spread_p5_l23 F v3 k2 k10 n u v2 (v4 + 1))) else none))) else (k10 u v2 (v3 + 1)))) else (k10 u v2 (v3 + 1))) else none) := rfl
set_option maxHeartbeats 4000000 in
set_option maxRecDepth 20000 in
theorem t_X5_spread_p5_l23 (F : Nat) (v3 : Int32) (k2 : S_X5 → Int32 → Option S_X5) (k10 : S_X5 → Int32 → Int32 → Option S_X5) (x : S_X5) (hk2 : ∀ (u : S_X5) (v2 : Int32), k2 u v2 = some x → ev_V mm_X5_spread none (ev_XR mm_X5_spread (fun r w => r = none ∧ w = W_X5 x)) 2 [some (.ref 0), some (.ref 5), some (.int v2), none, none, none] [] (W_X5 u) 0 0) (hk10 : ∀ (u : S_X5) (v2 : Int32) (v3 : Int32), k10 u v2 v3 = some x → ev_V mm_X5_spread none (ev_XR mm_X5_spread (fun r w => r = none ∧ w = W_X5 x)) 10 [some (.ref 0), some (.ref 5), some (.int v2), some (.int v3), none, none] [] (W_X5 u) 0 0) : ∀ (n : Nat) (u : S_X5) (v2 : Int32) (v4 : Int32), s_X5_spread_p5_l23 F v3 k2 k10 n u v2 v4 = some x → ev_V mm_X5_spread none (ev_XR mm_X5_spread (fun r w => r = none ∧ w = W_X5 x)) 23 [some (.ref 0), some (.ref 5), some (.int v2), some (.int v3), some (.int v4), none] [] (W_X5 u) 0 0 := by
  intro n
  induction n with
  | zero => intro u v2 v4 hR; cases hR
  | succ n hk23 =>
    intro u v2 v4 hR
    unfold s_X5_spread_p5_l23 at hR
    refine ev_run (cs := []) (pc' := 26) (L' := [some (.ref 0), some (.ref 5), some (.int v2), some (.int v3), some (.int v4), none]) (st' := [.int 4, .int v4]) (w' := W_X5 u) [] 2 (by with_unfolding_all rfl) trivial ?_
    refine ev_br rfl rfl (fun h1 => ?_) (fun h1 => ?_)
    · replace hR := lf_t h1 hR
      refine ev_run (cs := []) (pc' := 10) (L' := [some (.ref 0), some (.ref 5), some (.int v2), some (.int (v3 + 1)), some (.int v4), none]) (st' := []) (w' := W_X5 u) [] 2 (by with_unfolding_all rfl) trivial ?_
      exact ev_to2 (hk10 _ _ _ hR) ⟨rfl, rfl, rfl, rfl, trivial⟩ rfl rfl
    · replace hR := lf_f h1 hR
      obtain ⟨h2, hR⟩ := lf_g hR
      refine ev_run (cs := [lf_ix v3 24]) (pc' := 33) (L' := [some (.ref 0), some (.ref 5), some (.int v2), some (.int v3), some (.int v4), none]) (st' := [.int 1, .int ((a_X5_isReached u) v3.toNatClampNeg)]) (w' := W_X5 u) [] 4 (by with_unfolding_all rfl) (h2) ?_
      refine ev_br rfl rfl (fun h3 => ?_) (fun h3 => ?_)
      · replace hR := lf_f h3 hR
        refine ev_run (cs := []) (pc' := 10) (L' := [some (.ref 0), some (.ref 5), some (.int v2), some (.int (v3 + 1)), some (.int v4), none]) (st' := []) (w' := W_X5 u) [] 2 (by with_unfolding_all rfl) trivial ?_
        exact ev_to2 (hk10 _ _ _ hR) ⟨rfl, rfl, rfl, rfl, trivial⟩ rfl rfl
      · replace hR := lf_t h3 hR
        refine ev_run (cs := []) (pc' := 38) (L' := [some (.ref 0), some (.ref 5), some (.int v2), some (.int v3), some (.int v4), none]) (st' := [.int v3, .ref 0]) (w' := W_X5 u) [] 2 (by with_unfolding_all rfl) trivial ?_
        obtain ⟨y1, h4, hR⟩ := lf_b hR
        refine ev_callV1 0 (t_X5_lives F u v3 _ h4) cv_X5_lives ml_X5_54 rfl rfl rfl (Nat.le_of_ble_eq_true rfl) (by with_unfolding_all rfl) (Nat.le_of_ble_eq_true rfl) ⟨Nat.le_of_ble_eq_true rfl, Nat.le_of_ble_eq_true rfl⟩ ⟨Nat.le_refl _, Nat.le_refl _⟩ ?_ ?_
        · rintro r w ⟨rfl, rfl⟩; rfl
        rintro r w ⟨rfl, rfl⟩
        refine ev_nx (pc' := 41) (st' := [.int (ev_b y1)]) (w' := W_X5 u) rfl rfl (by with_unfolding_all rfl) rfl rfl ?_
        refine ev_br rfl rfl (fun h5 => ?_) (fun h5 => ?_)
        · replace hR := lf_z0 h5 hR
          refine ev_run (cs := []) (pc' := 10) (L' := [some (.ref 0), some (.ref 5), some (.int v2), some (.int (v3 + 1)), some (.int v4), none]) (st' := []) (w' := W_X5 u) [] 2 (by with_unfolding_all rfl) trivial ?_
          exact ev_to2 (hk10 _ _ _ hR) ⟨rfl, rfl, rfl, rfl, trivial⟩ rfl rfl
        · replace hR := lf_z1 h5 hR
          refine ev_run (cs := []) (pc' := 48) (L' := [some (.ref 0), some (.ref 5), some (.int v2), some (.int v3), some (.int v4), none]) (st' := [.int v4, .int v3, .ref 0]) (w' := W_X5 u) [] 3 (by with_unfolding_all rfl) trivial ?_
          obtain ⟨y2, h6, hR⟩ := lf_b hR
          refine ev_callV1 0 (t_X5_slotOf F u v3 v4 _ h6) cv_X5_slotOf ml_X5_58 rfl rfl rfl (Nat.le_of_ble_eq_true rfl) (by with_unfolding_all rfl) (Nat.le_of_ble_eq_true rfl) ⟨Nat.le_of_ble_eq_true rfl, Nat.le_of_ble_eq_true rfl⟩ ⟨Nat.le_refl _, Nat.le_refl _⟩ ?_ ?_
          · rintro r w ⟨rfl, rfl⟩; rfl
          rintro r w ⟨rfl, rfl⟩
          refine ev_nx (pc' := 51) (st' := [.int y2]) (w' := W_X5 u) rfl rfl (by with_unfolding_all rfl) rfl rfl ?_
          refine ev_run (cs := []) (pc' := 56) (L' := [some (.ref 0), some (.ref 5), some (.int v2), some (.int v3), some (.int v4), some (.int y2)]) (st' := [.int (-1), .int y2]) (w' := W_X5 u) [] 3 (by with_unfolding_all rfl) trivial ?_
          refine ev_br rfl rfl (fun h7 => ?_) (fun h7 => ?_)
          · replace hR := lf_t h7 hR
            refine ev_run (cs := []) (pc' := 23) (L' := [some (.ref 0), some (.ref 5), some (.int v2), some (.int v3), some (.int (v4 + 1)), some (.int y2)]) (st' := []) (w' := W_X5 u) [] 2 (by with_unfolding_all rfl) trivial ?_
            exact ev_to2 (hk23 _ _ _ hR) ⟨rfl, rfl, rfl, rfl, rfl, trivial⟩ rfl rfl
          · replace hR := lf_f h7 hR
            obtain ⟨h8, hR⟩ := lf_g hR
            refine ev_run (cs := [lf_ix y2 24]) (pc' := 63) (L' := [some (.ref 0), some (.ref 5), some (.int v2), some (.int v3), some (.int v4), some (.int y2)]) (st' := [.int ((a_X5_isReached u) y2.toNatClampNeg)]) (w' := W_X5 u) [] 3 (by with_unfolding_all rfl) (h8) ?_
            refine ev_br rfl rfl (fun h9 => ?_) (fun h9 => ?_)
            · replace hR := lf_f h9 hR
              refine ev_run (cs := []) (pc' := 23) (L' := [some (.ref 0), some (.ref 5), some (.int v2), some (.int v3), some (.int (v4 + 1)), some (.int y2)]) (st' := []) (w' := W_X5 u) [] 2 (by with_unfolding_all rfl) trivial ?_
              exact ev_to2 (hk23 _ _ _ hR) ⟨rfl, rfl, rfl, rfl, rfl, trivial⟩ rfl rfl
            · replace hR := lf_t h9 hR
              obtain ⟨h10, hR⟩ := lf_g hR
              refine ev_run (cs := [lf_ix y2 24]) (pc' := 23) (L' := [some (.ref 0), some (.ref 5), some (.int 1), some (.int v3), some (.int (v4 + 1)), some (.int y2)]) (st' := []) (w' := W_X5 (m_X5_isReached (upd (a_X5_isReached u) y2.toNatClampNeg 1) u)) [] 8 (by with_unfolding_all rfl) (h10) ?_
              exact ev_to2 (hk23 _ _ _ hR) ⟨rfl, rfl, rfl, rfl, rfl, trivial⟩ rfl rfl

def s_X5_spread_p5_l10 (F : Nat) (k2 : S_X5 → Int32 → Option S_X5) : Nat → S_X5 → Int32 → Int32 → Option S_X5
  | 0 => fun _ _ _ => none
  | n + 1 => fun u v2 v3 => if ((a_X5_state u) (1 : Int32).toNatClampNeg) ≤ v3 then (k2 u v2) else (s_X5_spread_p5_l23 F v3 k2 (s_X5_spread_p5_l10 F k2 n) F u v2 0)
theorem e_X5_spread_p5_l10 (F : Nat) (k2 : S_X5 → Int32 → Option S_X5) (n : Nat) (u : S_X5) (v2 : Int32) (v3 : Int32) : s_X5_spread_p5_l10 F k2 (n + 1) u v2 v3 = if ((a_X5_state u) (1 : Int32).toNatClampNeg) ≤ v3 then (k2 u v2) else (s_X5_spread_p5_l23 F v3 k2 (s_X5_spread_p5_l10 F k2 n) F u v2 0) := rfl
set_option maxHeartbeats 4000000 in
set_option maxRecDepth 20000 in
theorem t_X5_spread_p5_l10 (F : Nat) (k2 : S_X5 → Int32 → Option S_X5) (x : S_X5) (hk2 : ∀ (u : S_X5) (v2 : Int32), k2 u v2 = some x → ev_V mm_X5_spread none (ev_XR mm_X5_spread (fun r w => r = none ∧ w = W_X5 x)) 2 [some (.ref 0), some (.ref 5), some (.int v2), none, none, none] [] (W_X5 u) 0 0) : ∀ (n : Nat) (u : S_X5) (v2 : Int32) (v3 : Int32), s_X5_spread_p5_l10 F k2 n u v2 v3 = some x → ev_V mm_X5_spread none (ev_XR mm_X5_spread (fun r w => r = none ∧ w = W_X5 x)) 10 [some (.ref 0), some (.ref 5), some (.int v2), some (.int v3), none, none] [] (W_X5 u) 0 0 := by
  intro n
  induction n with
  | zero => intro u v2 v3 hR; cases hR
  | succ n hk10 =>
    intro u v2 v3 hR
    unfold s_X5_spread_p5_l10 at hR
    refine ev_run (cs := [lf_ix 1 20377]) (pc' := 17) (L' := [some (.ref 0), some (.ref 5), some (.int v2), some (.int v3), none, none]) (st' := [.int ((a_X5_state u) (1 : Int32).toNatClampNeg), .int v3]) (w' := W_X5 u) [] 5 (by with_unfolding_all rfl) (by show ¬ _; decide) ?_
    refine ev_br rfl rfl (fun h1 => ?_) (fun h1 => ?_)
    · replace hR := lf_t h1 hR
      refine ev_run (cs := []) (pc' := 2) (L' := [some (.ref 0), some (.ref 5), some (.int v2), some (.int v3), none, none]) (st' := []) (w' := W_X5 u) [] 1 (by with_unfolding_all rfl) trivial ?_
      exact ev_to2 (hk2 _ _ hR) ⟨rfl, rfl, rfl, trivial⟩ rfl rfl
    · replace hR := lf_f h1 hR
      refine ev_run (cs := []) (pc' := 23) (L' := [some (.ref 0), some (.ref 5), some (.int v2), some (.int v3), some (.int 0), none]) (st' := []) (w' := W_X5 u) [] 2 (by with_unfolding_all rfl) trivial ?_
      exact ev_to2 (t_X5_spread_p5_l23 F v3 k2 (s_X5_spread_p5_l10 F k2 n) _ hk2 hk10 F u v2 0 hR) ⟨rfl, rfl, rfl, rfl, rfl, trivial⟩ rfl rfl

def s_X5_spread_p5_l2 (F : Nat) : Nat → S_X5 → Int32 → Option S_X5
  | 0 => fun _ _ => none
  | n + 1 => fun u v2 => if v2 = 0 then (some (u)) else (s_X5_spread_p5_l10 F (s_X5_spread_p5_l2 F n) F u 0 0)
theorem e_X5_spread_p5_l2 (F : Nat) (n : Nat) (u : S_X5) (v2 : Int32) : s_X5_spread_p5_l2 F (n + 1) u v2 = if v2 = 0 then (some (u)) else (s_X5_spread_p5_l10 F (s_X5_spread_p5_l2 F n) F u 0 0) := rfl
set_option maxHeartbeats 4000000 in
set_option maxRecDepth 20000 in
theorem t_X5_spread_p5_l2 (F : Nat) (x : S_X5)  : ∀ (n : Nat) (u : S_X5) (v2 : Int32), s_X5_spread_p5_l2 F n u v2 = some x → ev_V mm_X5_spread none (ev_XR mm_X5_spread (fun r w => r = none ∧ w = W_X5 x)) 2 [some (.ref 0), some (.ref 5), some (.int v2), none, none, none] [] (W_X5 u) 0 0 := by
  intro n
  induction n with
  | zero => intro u v2 hR; cases hR
  | succ n hk2 =>
    intro u v2 hR
    unfold s_X5_spread_p5_l2 at hR
    refine ev_run (cs := []) (pc' := 3) (L' := [some (.ref 0), some (.ref 5), some (.int v2), none, none, none]) (st' := [.int v2]) (w' := W_X5 u) [] 1 (by with_unfolding_all rfl) trivial ?_
    refine ev_br rfl rfl (fun h1 => ?_) (fun h1 => ?_)
    · replace hR := lf_t h1 hR
      cases hR
      exact ev_exit ⟨_, _, rfl, ⟨rfl, rfl⟩, ⟨rfl, rfl⟩, Nat.le_refl _, Nat.le_refl _⟩
    · replace hR := lf_f h1 hR
      refine ev_run (cs := []) (pc' := 10) (L' := [some (.ref 0), some (.ref 5), some (.int 0), some (.int 0), none, none]) (st' := []) (w' := W_X5 u) [] 4 (by with_unfolding_all rfl) trivial ?_
      exact ev_to2 (t_X5_spread_p5_l10 F (s_X5_spread_p5_l2 F n) _ hk2 F u 0 0 hR) ⟨rfl, rfl, rfl, rfl, trivial⟩ rfl rfl

def s_X5_spread_p5 (F : Nat) (u : S_X5) : Option S_X5 := s_X5_spread_p5_l2 F F u 1
set_option maxHeartbeats 4000000 in
set_option maxRecDepth 20000 in
theorem t_X5_spread_p5 (F : Nat) (u : S_X5) (x : S_X5) (hR : s_X5_spread_p5 F u = some x) : ev_A yX5_spread mm_X5_spread none [.ref 0, .ref 5] (W_X5 u) (fun r w => r = none ∧ w = W_X5 x) := by
  unfold s_X5_spread_p5 at hR
  refine ev_start ok_X5_spread (by decide +kernel) rfl rfl (Nat.le_of_ble_eq_true rfl) ?_
  refine ev_run (cs := []) (pc' := 2) (L' := [some (.ref 0), some (.ref 5), some (.int 1), none, none, none]) (st' := []) (w' := W_X5 u) [] 2 (by with_unfolding_all rfl) trivial ?_
  exact ev_to2 (t_X5_spread_p5_l2 F _ F u 1 hR) ⟨rfl, rfl, rfl, trivial⟩ rfl rfl

def s_X5_findReached_l60 (F : Nat) (u : S_X5) : Nat → Int32 → Int32 → Option (Int32 × S_X5)
  | 0 => fun _ _ => none
  | n + 1 => fun v1 v2 => if 24 ≤ v2 then (some (v1, u)) else (if lf_ix v2 24 then (s_X5_findReached_l60 F u n (v1 + ((a_X5_isReached u) v2.toNatClampNeg)) (v2 + 1)) else none)
theorem e_X5_findReached_l60 (F : Nat) (u : S_X5) (n : Nat) (v1 : Int32) (v2 : Int32) : s_X5_findReached_l60 F u (n + 1) v1 v2 = if 24 ≤ v2 then (some (v1, u)) else (if lf_ix v2 24 then (s_X5_findReached_l60 F u n (v1 + ((a_X5_isReached u) v2.toNatClampNeg)) (v2 + 1)) else none) := rfl
set_option maxHeartbeats 4000000 in
set_option maxRecDepth 20000 in
theorem t_X5_findReached_l60 (F : Nat) (u : S_X5) (x : (Int32 × S_X5))  : ∀ (n : Nat) (v1 : Int32) (v2 : Int32), s_X5_findReached_l60 F u n v1 v2 = some x → ev_V mm_X5_findReached none (ev_XR mm_X5_findReached (fun r w => r = some (.int x.1) ∧ w = W_X5 x.2)) 60 [some (.ref 0), some (.int v1), some (.int v2)] [] (W_X5 u) 0 0 := by
  intro n
  induction n with
  | zero => intro v1 v2 hR; cases hR
  | succ n hk60 =>
    intro v1 v2 hR
    unfold s_X5_findReached_l60 at hR
    refine ev_run (cs := []) (pc' := 63) (L' := [some (.ref 0), some (.int v1), some (.int v2)]) (st' := [.int 24, .int v2]) (w' := W_X5 u) [] 2 (by with_unfolding_all rfl) trivial ?_
    refine ev_br rfl rfl (fun h1 => ?_) (fun h1 => ?_)
    · replace hR := lf_t h1 hR
      refine ev_run (cs := []) (pc' := 82) (L' := [some (.ref 0), some (.int v1), some (.int v2)]) (st' := [.int v1]) (w' := W_X5 u) [] 1 (by with_unfolding_all rfl) trivial ?_
      cases hR
      exact ev_exit ⟨_, _, rfl, ⟨rfl, Or.inl rfl⟩, ⟨rfl, rfl⟩, Nat.le_refl _, Nat.le_refl _⟩
    · replace hR := lf_f h1 hR
      obtain ⟨h2, hR⟩ := lf_g hR
      refine ev_run (cs := [lf_ix v2 24]) (pc' := 60) (L' := [some (.ref 0), some (.int (v1 + ((a_X5_isReached u) v2.toNatClampNeg))), some (.int (v2 + 1))]) (st' := []) (w' := W_X5 u) [] 9 (by with_unfolding_all rfl) (h2) ?_
      exact ev_to2 (hk60 _ _ hR) ⟨rfl, rfl, rfl, trivial⟩ rfl rfl

def s_X5_findReached_b48 (F : Nat) (u : S_X5) : Option (Int32 × S_X5) := (s_X5_spread_p5 F u).bind fun y1 => (s_X5_findReached_l60 F y1 F 0 0)
set_option maxHeartbeats 4000000 in
set_option maxRecDepth 20000 in
theorem t_X5_findReached_b48 (F : Nat) (u : S_X5) (x : (Int32 × S_X5))  (hR : s_X5_findReached_b48 F u = some x) : ev_V mm_X5_findReached none (ev_XR mm_X5_findReached (fun r w => r = some (.int x.1) ∧ w = W_X5 x.2)) 48 [some (.ref 0), none, none] [] (W_X5 u) 0 0 := by
  unfold s_X5_findReached_b48 at hR
  refine ev_run (cs := []) (pc' := 53) (L' := [some (.ref 0), none, none]) (st' := [.ref 5, .ref 0]) (w' := W_X5 u) [] 3 (by with_unfolding_all rfl) trivial ?_
  obtain ⟨y1, h1, hR⟩ := lf_b hR
  refine ev_callV1 0 (t_X5_spread_p5 F u _ h1) cv_X5_spread ml_X5_68 rfl rfl rfl (Nat.le_of_ble_eq_true rfl) (by with_unfolding_all rfl) (Nat.le_of_ble_eq_true rfl) ⟨Nat.le_of_ble_eq_true rfl, Nat.le_of_ble_eq_true rfl⟩ ⟨Nat.le_refl _, Nat.le_refl _⟩ ?_ ?_
  · rintro r w ⟨rfl, rfl⟩; rfl
  rintro r w ⟨rfl, rfl⟩
  refine ev_nx (pc' := 56) (st' := []) (w' := W_X5 y1) rfl rfl (by with_unfolding_all rfl) rfl rfl ?_
  refine ev_run (cs := []) (pc' := 60) (L' := [some (.ref 0), some (.int 0), some (.int 0)]) (st' := []) (w' := W_X5 y1) [] 4 (by with_unfolding_all rfl) trivial ?_
  exact ev_to2 (t_X5_findReached_l60 F y1 _ F 0 0 hR) ⟨rfl, rfl, rfl, trivial⟩ rfl rfl

def s_X5_findReached_l9 (F : Nat) : Nat → S_X5 → Int32 → Option (Int32 × S_X5)
  | 0 => fun _ _ => none
  | n + 1 => fun u v1 => if 4 ≤ v1 then (s_X5_findReached_b48 F u) else (if lf_ix (13 + v1) 20377 then (if ((a_X5_state u) ((13 + v1).toNatClampNeg)) = (-1) then (s_X5_findReached_l9 F n u (v1 + 1)) else (if lf_ix (13 + v1) 20377 then (if lf_ix ((a_X5_state u) ((13 + v1).toNatClampNeg)) 24 then (s_X5_findReached_l9 F n (m_X5_isReached (upd (a_X5_isReached u) (((a_X5_state u) ((13 + v1).toNatClampNeg)).toNatClampNeg) 1) u) (v1 + 1)) else none) else none)) else none)
theorem e_X5_findReached_l9 (F : Nat) (n : Nat) (u : S_X5) (v1 : Int32) : s_X5_findReached_l9 F (n + 1) u v1 = if 4 ≤ v1 then (s_X5_findReached_b48 F u) else (if lf_ix (13 + v1) 20377 then (if ((a_X5_state u) ((13 + v1).toNatClampNeg)) = (-1) then (s_X5_findReached_l9 F n u (v1 + 1)) else (if lf_ix (13 + v1) 20377 then (if lf_ix ((a_X5_state u) ((13 + v1).toNatClampNeg)) 24 then (s_X5_findReached_l9 F n (m_X5_isReached (upd (a_X5_isReached u) (((a_X5_state u) ((13 + v1).toNatClampNeg)).toNatClampNeg) 1) u) (v1 + 1)) else none) else none)) else none) := rfl
set_option maxHeartbeats 4000000 in
set_option maxRecDepth 20000 in
theorem t_X5_findReached_l9 (F : Nat) (x : (Int32 × S_X5))  : ∀ (n : Nat) (u : S_X5) (v1 : Int32), s_X5_findReached_l9 F n u v1 = some x → ev_V mm_X5_findReached none (ev_XR mm_X5_findReached (fun r w => r = some (.int x.1) ∧ w = W_X5 x.2)) 9 [some (.ref 0), some (.int v1), none] [] (W_X5 u) 0 0 := by
  intro n
  induction n with
  | zero => intro u v1 hR; cases hR
  | succ n hk9 =>
    intro u v1 hR
    unfold s_X5_findReached_l9 at hR
    refine ev_run (cs := []) (pc' := 11) (L' := [some (.ref 0), some (.int v1), none]) (st' := [.int 4, .int v1]) (w' := W_X5 u) [] 2 (by with_unfolding_all rfl) trivial ?_
    refine ev_br rfl rfl (fun h1 => ?_) (fun h1 => ?_)
    · replace hR := lf_t h1 hR
      exact ev_to2 (t_X5_findReached_b48 F u _ hR) ⟨rfl, trivial⟩ rfl rfl
    · replace hR := lf_f h1 hR
      obtain ⟨h2, hR⟩ := lf_g hR
      refine ev_run (cs := [lf_ix (13 + v1) 20377]) (pc' := 24) (L' := [some (.ref 0), some (.int v1), none]) (st' := [.int (-1), .int ((a_X5_state u) ((13 + v1).toNatClampNeg))]) (w' := W_X5 u) [] 7 (by with_unfolding_all rfl) (h2) ?_
      refine ev_br rfl rfl (fun h3 => ?_) (fun h3 => ?_)
      · replace hR := lf_t h3 hR
        refine ev_run (cs := []) (pc' := 9) (L' := [some (.ref 0), some (.int (v1 + 1)), none]) (st' := []) (w' := W_X5 u) [] 2 (by with_unfolding_all rfl) trivial ?_
        exact ev_to2 (hk9 _ _ hR) ⟨rfl, rfl, trivial⟩ rfl rfl
      · replace hR := lf_f h3 hR
        obtain ⟨h4, hR⟩ := lf_g hR
        obtain ⟨h5, hR⟩ := lf_g hR
        refine ev_run (cs := [lf_ix (13 + v1) 20377, lf_ix ((a_X5_state u) ((13 + v1).toNatClampNeg)) 24]) (pc' := 9) (L' := [some (.ref 0), some (.int (v1 + 1)), none]) (st' := []) (w' := W_X5 (m_X5_isReached (upd (a_X5_isReached u) (((a_X5_state u) ((13 + v1).toNatClampNeg)).toNatClampNeg) 1) u)) [] 12 (by with_unfolding_all rfl) ⟨h4, h5⟩ ?_
        exact ev_to2 (hk9 _ _ hR) ⟨rfl, rfl, trivial⟩ rfl rfl

def s_X5_findReached (F : Nat) (u : S_X5) : Option (Int32 × S_X5) := (s_X5_clear F 24 (a_X5_isReached u)).bind fun y1 => (s_X5_findReached_l9 F F (m_X5_isReached y1 u) 0)
set_option maxHeartbeats 4000000 in
set_option maxRecDepth 20000 in
theorem t_X5_findReached (F : Nat) (u : S_X5) (x : (Int32 × S_X5)) (hR : s_X5_findReached F u = some x) : ev_A yX5_findReached mm_X5_findReached none [.ref 0] (W_X5 u) (fun r w => r = some (.int x.1) ∧ w = W_X5 x.2) := by
  unfold s_X5_findReached at hR
  refine ev_start ok_X5_findReached (by decide +kernel) rfl rfl (Nat.le_of_ble_eq_true rfl) ?_
  refine ev_run (cs := []) (pc' := 4) (L' := [some (.ref 0), none, none]) (st' := [.ref 5]) (w' := W_X5 u) [] 2 (by with_unfolding_all rfl) trivial ?_
  obtain ⟨y1, h1, hR⟩ := lf_b hR
  refine ev_callS1 5 (t_X5_clear F 24 (a_X5_isReached u) _ h1) cs_X5_clear ml_X5_64 rfl rfl rfl (Nat.le_of_ble_eq_true rfl) (by with_unfolding_all rfl) (Nat.le_of_ble_eq_true rfl) ⟨Nat.le_of_ble_eq_true rfl, Nat.le_of_ble_eq_true rfl⟩ ⟨Nat.le_refl _, Nat.le_refl _⟩ ?_ ?_
  · rintro r w ⟨rfl, rfl⟩; rfl
  rintro r w ⟨rfl, rfl⟩
  refine ev_nx (pc' := 7) (st' := []) (w' := W_X5 (m_X5_isReached y1 u)) rfl rfl (by with_unfolding_all rfl) rfl rfl ?_
  refine ev_run (cs := []) (pc' := 9) (L' := [some (.ref 0), some (.int 0), none]) (st' := []) (w' := W_X5 (m_X5_isReached y1 u)) [] 2 (by with_unfolding_all rfl) trivial ?_
  exact ev_to2 (t_X5_findReached_l9 F _ F (m_X5_isReached y1 u) 0 hR) ⟨rfl, rfl, trivial⟩ rfl rfl

def s_X5_addReport (F : Nat) (u : S_X5) (v1 : Int32) (v2 : Int32) (v3 : Int32) : Option (Int32 × S_X5) := if lf_ix ((377 + (5 * ((a_X5_state u) (3 : Int32).toNatClampNeg))) + 0) 20377 then (lf_let (m_X5_state (upd (a_X5_state u) (((377 + (5 * ((a_X5_state u) (3 : Int32).toNatClampNeg))) + 0).toNatClampNeg) ((a_X5_state u) (2 : Int32).toNatClampNeg)) u) fun z1 => (if lf_ix ((377 + (5 * ((a_X5_state u) (3 : Int32).toNatClampNeg))) + 1) 20377 then (lf_let (m_X5_state (upd (a_X5_state z1) (((377 + (5 * ((a_X5_state u) (3 : Int32).toNatClampNeg))) + 1).toNatClampNeg) v1) z1) fun z2 => (if lf_ix ((377 + (5 * ((a_X5_state u) (3 : Int32).toNatClampNeg))) + 2) 20377 then (lf_let (m_X5_state (upd (a_X5_state z2) (((377 + (5 * ((a_X5_state u) (3 : Int32).toNatClampNeg))) + 2).toNatClampNeg) v2) z2) fun z3 => (if lf_ix (8 + (v1 - v1 / 3 * 3)) 20377 then (if lf_ix ((377 + (5 * ((a_X5_state u) (3 : Int32).toNatClampNeg))) + 3) 20377 then (lf_let (m_X5_state (upd (a_X5_state z3) (((377 + (5 * ((a_X5_state u) (3 : Int32).toNatClampNeg))) + 3).toNatClampNeg) (((a_X5_state z3) (0 : Int32).toNatClampNeg) + ((a_X5_state z3) ((8 + (v1 - v1 / 3 * 3)).toNatClampNeg)))) z3) fun z4 => (if lf_ix ((377 + (5 * ((a_X5_state u) (3 : Int32).toNatClampNeg))) + 4) 20377 then (lf_let (m_X5_state (upd (a_X5_state z4) (((377 + (5 * ((a_X5_state u) (3 : Int32).toNatClampNeg))) + 4).toNatClampNeg) v3) z4) fun z5 => (lf_let (m_X5_state (upd (a_X5_state z5) (3 : Int32).toNatClampNeg (((a_X5_state z5) (3 : Int32).toNatClampNeg) + 1)) z5) fun z6 => (some ((a_X5_state u) (2 : Int32).toNatClampNeg, m_X5_state (upd (a_X5_state z6) (2 : Int32).toNatClampNeg (((a_X5_state z6) (2 : Int32).toNatClampNeg) + 1)) z6)))) else none)) else none) else none)) else none)) else none)) else none
set_option maxHeartbeats 4000000 in
set_option maxRecDepth 20000 in
theorem t_X5_addReport (F : Nat) (u : S_X5) (v1 : Int32) (v2 : Int32) (v3 : Int32) (x : (Int32 × S_X5)) (hR : s_X5_addReport F u v1 v2 v3 = some x) : ev_A yX5_addReport mm_X5_addReport none [.ref 0, .int v1, .int v2, .int v3] (W_X5 u) (fun r w => r = some (.int x.1) ∧ w = W_X5 x.2) := by
  unfold s_X5_addReport at hR
  refine ev_start ok_X5_addReport (by decide +kernel) rfl rfl (Nat.le_of_ble_eq_true rfl) ?_
  refine ev_run (cs := [lf_ix 3 20377]) (pc' := 19) (L' := [some (.ref 0), some (.int v1), some (.int v2), some (.int v3), some (.int (377 + (5 * ((a_X5_state u) (3 : Int32).toNatClampNeg)))), none]) (st' := [.int 2, .ref 1]) (w' := W_X5 u) [] 12 (by with_unfolding_all rfl) (by show ¬ _; decide) ?_
  obtain ⟨h1, hR⟩ := lf_g hR
  refine ev_run (cs := [lf_ix 2 20377, lf_ix ((377 + (5 * ((a_X5_state u) (3 : Int32).toNatClampNeg))) + 0) 20377]) (pc' := 39) (L' := [some (.ref 0), some (.int v1), some (.int v2), some (.int v3), some (.int (377 + (5 * ((a_X5_state u) (3 : Int32).toNatClampNeg)))), some (.int ((a_X5_state u) (2 : Int32).toNatClampNeg))]) (st' := [.int (377 + (5 * ((a_X5_state u) (3 : Int32).toNatClampNeg))), .ref 1]) (w' := W_X5 (m_X5_state (upd (a_X5_state u) (((377 + (5 * ((a_X5_state u) (3 : Int32).toNatClampNeg))) + 0).toNatClampNeg) ((a_X5_state u) (2 : Int32).toNatClampNeg)) u)) [] 12 (by with_unfolding_all rfl) ⟨by show ¬ _; decide, h1⟩ ?_
  refine ev_run (cs := []) (pc' := 42) (L' := [some (.ref 0), some (.int v1), some (.int v2), some (.int v3), some (.int (377 + (5 * ((a_X5_state u) (3 : Int32).toNatClampNeg)))), some (.int ((a_X5_state u) (2 : Int32).toNatClampNeg))]) (st' := [.int v1, .int ((377 + (5 * ((a_X5_state u) (3 : Int32).toNatClampNeg))) + 1), .ref 1]) (w' := W_X5 (m_X5_state (upd (a_X5_state u) (((377 + (5 * ((a_X5_state u) (3 : Int32).toNatClampNeg))) + 0).toNatClampNeg) ((a_X5_state u) (2 : Int32).toNatClampNeg)) u)) [] 3 (by with_unfolding_all rfl) trivial ?_
  obtain ⟨z1, hz1, hR⟩ := lf_l hR
  refine ev_nx (pc' := 42) (st' := [.int v1, .int ((377 + (5 * ((a_X5_state u) (3 : Int32).toNatClampNeg))) + 1), .ref 1]) (w' := W_X5 z1) rfl rfl (congrArg (fun z => W_X5 z) hz1.symm) rfl rfl ?_
  obtain ⟨h2, hR⟩ := lf_g hR
  refine ev_run (cs := [lf_ix ((377 + (5 * ((a_X5_state u) (3 : Int32).toNatClampNeg))) + 1) 20377]) (pc' := 52) (L' := [some (.ref 0), some (.int v1), some (.int v2), some (.int v3), some (.int (377 + (5 * ((a_X5_state u) (3 : Int32).toNatClampNeg)))), some (.int ((a_X5_state u) (2 : Int32).toNatClampNeg))]) (st' := [.int v2, .int ((377 + (5 * ((a_X5_state u) (3 : Int32).toNatClampNeg))) + 2), .ref 1]) (w' := W_X5 (m_X5_state (upd (a_X5_state z1) (((377 + (5 * ((a_X5_state u) (3 : Int32).toNatClampNeg))) + 1).toNatClampNeg) v1) z1)) [] 7 (by with_unfolding_all rfl) (h2) ?_
  obtain ⟨z2, hz2, hR⟩ := lf_l hR
  refine ev_nx (pc' := 52) (st' := [.int v2, .int ((377 + (5 * ((a_X5_state u) (3 : Int32).toNatClampNeg))) + 2), .ref 1]) (w' := W_X5 z2) rfl rfl (congrArg (fun z => W_X5 z) hz2.symm) rfl rfl ?_
  obtain ⟨h3, hR⟩ := lf_g hR
  refine ev_run (cs := [lf_ix ((377 + (5 * ((a_X5_state u) (3 : Int32).toNatClampNeg))) + 2) 20377]) (pc' := 66) (L' := [some (.ref 0), some (.int v1), some (.int v2), some (.int v3), some (.int (377 + (5 * ((a_X5_state u) (3 : Int32).toNatClampNeg)))), some (.int ((a_X5_state u) (2 : Int32).toNatClampNeg))]) (st' := [.int 0, .ref 1, .int ((377 + (5 * ((a_X5_state u) (3 : Int32).toNatClampNeg))) + 3), .ref 1]) (w' := W_X5 (m_X5_state (upd (a_X5_state z2) (((377 + (5 * ((a_X5_state u) (3 : Int32).toNatClampNeg))) + 2).toNatClampNeg) v2) z2)) [] 9 (by with_unfolding_all rfl) (h3) ?_
  obtain ⟨z3, hz3, hR⟩ := lf_l hR
  refine ev_nx (pc' := 66) (st' := [.int 0, .ref 1, .int ((377 + (5 * ((a_X5_state u) (3 : Int32).toNatClampNeg))) + 3), .ref 1]) (w' := W_X5 z3) rfl rfl (congrArg (fun z => W_X5 z) hz3.symm) rfl rfl ?_
  obtain ⟨h4, hR⟩ := lf_g hR
  obtain ⟨h5, hR⟩ := lf_g hR
  refine ev_run (cs := [lf_ix 0 20377, ¬ (3 : Int32) = 0, lf_ix (8 + (v1 - v1 / 3 * 3)) 20377, lf_ix ((377 + (5 * ((a_X5_state u) (3 : Int32).toNatClampNeg))) + 3) 20377]) (pc' := 81) (L' := [some (.ref 0), some (.int v1), some (.int v2), some (.int v3), some (.int (377 + (5 * ((a_X5_state u) (3 : Int32).toNatClampNeg)))), some (.int ((a_X5_state u) (2 : Int32).toNatClampNeg))]) (st' := [.ref 0]) (w' := W_X5 (m_X5_state (upd (a_X5_state z3) (((377 + (5 * ((a_X5_state u) (3 : Int32).toNatClampNeg))) + 3).toNatClampNeg) (((a_X5_state z3) (0 : Int32).toNatClampNeg) + ((a_X5_state z3) ((8 + (v1 - v1 / 3 * 3)).toNatClampNeg)))) z3)) [] 12 (by with_unfolding_all rfl) ⟨by show ¬ _; decide, by show ¬ _; decide, h4, h5⟩ ?_
  refine ev_run (cs := []) (pc' := 89) (L' := [some (.ref 0), some (.int v1), some (.int v2), some (.int v3), some (.int (377 + (5 * ((a_X5_state u) (3 : Int32).toNatClampNeg)))), some (.int ((a_X5_state u) (2 : Int32).toNatClampNeg))]) (st' := [.int v3, .int ((377 + (5 * ((a_X5_state u) (3 : Int32).toNatClampNeg))) + 4), .ref 1]) (w' := W_X5 (m_X5_state (upd (a_X5_state z3) (((377 + (5 * ((a_X5_state u) (3 : Int32).toNatClampNeg))) + 3).toNatClampNeg) (((a_X5_state z3) (0 : Int32).toNatClampNeg) + ((a_X5_state z3) ((8 + (v1 - v1 / 3 * 3)).toNatClampNeg)))) z3)) [] 5 (by with_unfolding_all rfl) trivial ?_
  obtain ⟨z4, hz4, hR⟩ := lf_l hR
  refine ev_nx (pc' := 89) (st' := [.int v3, .int ((377 + (5 * ((a_X5_state u) (3 : Int32).toNatClampNeg))) + 4), .ref 1]) (w' := W_X5 z4) rfl rfl (congrArg (fun z => W_X5 z) hz4.symm) rfl rfl ?_
  obtain ⟨h6, hR⟩ := lf_g hR
  refine ev_run (cs := [lf_ix ((377 + (5 * ((a_X5_state u) (3 : Int32).toNatClampNeg))) + 4) 20377]) (pc' := 96) (L' := [some (.ref 0), some (.int v1), some (.int v2), some (.int v3), some (.int (377 + (5 * ((a_X5_state u) (3 : Int32).toNatClampNeg)))), some (.int ((a_X5_state u) (2 : Int32).toNatClampNeg))]) (st' := [.int 3, .ref 1, .int 3, .ref 1]) (w' := W_X5 (m_X5_state (upd (a_X5_state z4) (((377 + (5 * ((a_X5_state u) (3 : Int32).toNatClampNeg))) + 4).toNatClampNeg) v3) z4)) [] 5 (by with_unfolding_all rfl) (h6) ?_
  obtain ⟨z5, hz5, hR⟩ := lf_l hR
  refine ev_nx (pc' := 96) (st' := [.int 3, .ref 1, .int 3, .ref 1]) (w' := W_X5 z5) rfl rfl (congrArg (fun z => W_X5 z) hz5.symm) rfl rfl ?_
  refine ev_run (cs := [lf_ix 3 20377, lf_ix 3 20377]) (pc' := 106) (L' := [some (.ref 0), some (.int v1), some (.int v2), some (.int v3), some (.int (377 + (5 * ((a_X5_state u) (3 : Int32).toNatClampNeg)))), some (.int ((a_X5_state u) (2 : Int32).toNatClampNeg))]) (st' := [.int 2, .ref 1, .int 2, .ref 1]) (w' := W_X5 (m_X5_state (upd (a_X5_state z5) (3 : Int32).toNatClampNeg (((a_X5_state z5) (3 : Int32).toNatClampNeg) + 1)) z5)) [] 8 (by with_unfolding_all rfl) ⟨by show ¬ _; decide, by show ¬ _; decide⟩ ?_
  obtain ⟨z6, hz6, hR⟩ := lf_l hR
  refine ev_nx (pc' := 106) (st' := [.int 2, .ref 1, .int 2, .ref 1]) (w' := W_X5 z6) rfl rfl (congrArg (fun z => W_X5 z) hz6.symm) rfl rfl ?_
  refine ev_run (cs := [lf_ix 2 20377, lf_ix 2 20377]) (pc' := 112) (L' := [some (.ref 0), some (.int v1), some (.int v2), some (.int v3), some (.int (377 + (5 * ((a_X5_state u) (3 : Int32).toNatClampNeg)))), some (.int ((a_X5_state u) (2 : Int32).toNatClampNeg))]) (st' := [.int ((a_X5_state u) (2 : Int32).toNatClampNeg)]) (w' := W_X5 (m_X5_state (upd (a_X5_state z6) (2 : Int32).toNatClampNeg (((a_X5_state z6) (2 : Int32).toNatClampNeg) + 1)) z6)) [] 5 (by with_unfolding_all rfl) ⟨by show ¬ _; decide, by show ¬ _; decide⟩ ?_
  cases hR
  exact ev_exit ⟨_, _, rfl, ⟨rfl, Or.inl rfl⟩, ⟨rfl, rfl⟩, Nat.le_refl _, Nat.le_refl _⟩

def s_X5_atPlace_b84 (F : Nat) (k4 : Int32 → Int32 → Option Int32) (u : S_X5) (v1 : Int32) (v3 : Int32) (v4 : Int32) : Option Int32 := if v4 = v1 then (k4 v3 (v3 + 1)) else (k4 (-1) (v3 + 1))
set_option maxHeartbeats 4000000 in
set_option maxRecDepth 20000 in
theorem t_X5_atPlace_b84 (F : Nat) (k4 : Int32 → Int32 → Option Int32) (u : S_X5) (v1 : Int32) (v3 : Int32) (v4 : Int32) (x : Int32) (hk4 : ∀ (v2 : Int32) (v3 : Int32), k4 v2 v3 = some x → ev_V mm_X5_atPlace none (ev_XR mm_X5_atPlace (fun r w => r = some (.int x) ∧ w = W_X5 u)) 4 [some (.ref 0), some (.int v1), some (.int v2), some (.int v3), none, none, none] [] (W_X5 u) 0 0) (hR : s_X5_atPlace_b84 F k4 u v1 v3 v4 = some x) : ev_V mm_X5_atPlace none (ev_XR mm_X5_atPlace (fun r w => r = some (.int x) ∧ w = W_X5 u)) 84 [some (.ref 0), some (.int v1), none, some (.int v3), some (.int v4), none, none] [] (W_X5 u) 0 0 := by
  unfold s_X5_atPlace_b84 at hR
  refine ev_run (cs := []) (pc' := 87) (L' := [some (.ref 0), some (.int v1), none, some (.int v3), some (.int v4), none, none]) (st' := [.int v1, .int v4]) (w' := W_X5 u) [] 2 (by with_unfolding_all rfl) trivial ?_
  refine ev_br rfl rfl (fun h1 => ?_) (fun h1 => ?_)
  · replace hR := lf_f h1 hR
    refine ev_run (cs := []) (pc' := 4) (L' := [some (.ref 0), some (.int v1), some (.int (-1)), some (.int (v3 + 1)), some (.int v4), none, none]) (st' := []) (w' := W_X5 u) [] 4 (by with_unfolding_all rfl) trivial ?_
    exact ev_to2 (hk4 _ _ hR) ⟨rfl, rfl, rfl, rfl, trivial⟩ rfl rfl
  · replace hR := lf_t h1 hR
    refine ev_run (cs := []) (pc' := 4) (L' := [some (.ref 0), some (.int v1), some (.int v3), some (.int (v3 + 1)), some (.int v4), none, none]) (st' := []) (w' := W_X5 u) [] 5 (by with_unfolding_all rfl) trivial ?_
    exact ev_to2 (hk4 _ _ hR) ⟨rfl, rfl, rfl, rfl, trivial⟩ rfl rfl

def s_X5_atPlace_l25 (F : Nat) (u : S_X5) (v1 : Int32) (v3 : Int32) (k4 : Int32 → Int32 → Option Int32) : Nat → Int32 → Int32 → Option Int32
  | 0 => fun _ _ => none
  | n + 1 => fun v4 v5 => if ((a_X5_state u) (3 : Int32).toNatClampNeg) ≤ v5 then (s_X5_atPlace_b84 F k4 u v1 v3 v4) else ((s_X5_reportPart F u v5 3).bind fun y1 => ((s_X5_reportPart F u v3 3).bind fun y2 => (if (y1 - y2) < 0 then (s_X5_atPlace_l25 F u v1 v3 k4 n (v4 + 1) (v5 + 1)) else (if (y1 - y2) = 0 then (if v3 ≤ v5 then (s_X5_atPlace_l25 F u v1 v3 k4 n (v4 + 0) (v5 + 1)) else (s_X5_atPlace_l25 F u v1 v3 k4 n (v4 + 1) (v5 + 1))) else (s_X5_atPlace_l25 F u v1 v3 k4 n (v4 + 0) (v5 + 1))))))
theorem e_X5_atPlace_l25 (F : Nat) (u : S_X5) (v1 : Int32) (v3 : Int32) (k4 : Int32 → Int32 → Option Int32) (n : Nat) (v4 : Int32) (v5 : Int32) : s_X5_atPlace_l25 F u v1 v3 k4 (n + 1) v4 v5 = if ((a_X5_state u) (3 : Int32).toNatClampNeg) ≤ v5 then (s_X5_atPlace_b84 F k4 u v1 v3 v4) else ((s_X5_reportPart F u v5 3).bind fun y1 => ((s_X5_reportPart F u v3 3).bind fun y2 => (if (y1 - y2) < 0 then (s_X5_atPlace_l25 F u v1 v3 k4 n (v4 + 1) (v5 + 1)) else (if (y1 - y2) = 0 then (if v3 ≤ v5 then (s_X5_atPlace_l25 F u v1 v3 k4 n (v4 + 0) (v5 + 1)) else (s_X5_atPlace_l25 F u v1 v3 k4 n (v4 + 1) (v5 + 1))) else (s_X5_atPlace_l25 F u v1 v3 k4 n (v4 + 0) (v5 + 1)))))) := rfl
set_option maxHeartbeats 4000000 in
set_option maxRecDepth 20000 in
theorem t_X5_atPlace_l25 (F : Nat) (u : S_X5) (v1 : Int32) (v3 : Int32) (k4 : Int32 → Int32 → Option Int32) (x : Int32) (hk4 : ∀ (v2 : Int32) (v3 : Int32), k4 v2 v3 = some x → ev_V mm_X5_atPlace none (ev_XR mm_X5_atPlace (fun r w => r = some (.int x) ∧ w = W_X5 u)) 4 [some (.ref 0), some (.int v1), some (.int v2), some (.int v3), none, none, none] [] (W_X5 u) 0 0) : ∀ (n : Nat) (v4 : Int32) (v5 : Int32), s_X5_atPlace_l25 F u v1 v3 k4 n v4 v5 = some x → ev_V mm_X5_atPlace none (ev_XR mm_X5_atPlace (fun r w => r = some (.int x) ∧ w = W_X5 u)) 25 [some (.ref 0), some (.int v1), none, some (.int v3), some (.int v4), some (.int v5), none] [] (W_X5 u) 0 0 := by
  intro n
  induction n with
  | zero => intro v4 v5 hR; cases hR
  | succ n hk25 =>
    intro v4 v5 hR
    unfold s_X5_atPlace_l25 at hR
    refine ev_run (cs := [lf_ix 3 20377]) (pc' := 33) (L' := [some (.ref 0), some (.int v1), none, some (.int v3), some (.int v4), some (.int v5), none]) (st' := [.int ((a_X5_state u) (3 : Int32).toNatClampNeg), .int v5]) (w' := W_X5 u) [] 5 (by with_unfolding_all rfl) (by show ¬ _; decide) ?_
    refine ev_br rfl rfl (fun h1 => ?_) (fun h1 => ?_)
    · replace hR := lf_t h1 hR
      exact ev_to2 (t_X5_atPlace_b84 F k4 u v1 v3 v4 _ hk4 hR) ⟨rfl, rfl, rfl, rfl, trivial⟩ rfl rfl
    · replace hR := lf_f h1 hR
      refine ev_run (cs := []) (pc' := 40) (L' := [some (.ref 0), some (.int v1), none, some (.int v3), some (.int v4), some (.int v5), none]) (st' := [.int 3, .int v5, .ref 0]) (w' := W_X5 u) [] 3 (by with_unfolding_all rfl) trivial ?_
      obtain ⟨y1, h2, hR⟩ := lf_b hR
      refine ev_callV1 0 (t_X5_reportPart F u v5 3 _ h2) cv_X5_reportPart ml_X5_61 rfl rfl rfl (Nat.le_of_ble_eq_true rfl) (by with_unfolding_all rfl) (Nat.le_of_ble_eq_true rfl) ⟨Nat.le_of_ble_eq_true rfl, Nat.le_of_ble_eq_true rfl⟩ ⟨Nat.le_refl _, Nat.le_refl _⟩ ?_ ?_
      · rintro r w ⟨rfl, rfl⟩; rfl
      rintro r w ⟨rfl, rfl⟩
      refine ev_nx (pc' := 43) (st' := [.int y1]) (w' := W_X5 u) rfl rfl (by with_unfolding_all rfl) rfl rfl ?_
      refine ev_run (cs := []) (pc' := 46) (L' := [some (.ref 0), some (.int v1), none, some (.int v3), some (.int v4), some (.int v5), none]) (st' := [.int 3, .int v3, .ref 0, .int y1]) (w' := W_X5 u) [] 3 (by with_unfolding_all rfl) trivial ?_
      obtain ⟨y2, h3, hR⟩ := lf_b hR
      refine ev_callV1 0 (t_X5_reportPart F u v3 3 _ h3) cv_X5_reportPart ml_X5_61 rfl rfl rfl (Nat.le_of_ble_eq_true rfl) (by with_unfolding_all rfl) (Nat.le_of_ble_eq_true rfl) ⟨Nat.le_of_ble_eq_true rfl, Nat.le_of_ble_eq_true rfl⟩ ⟨Nat.le_refl _, Nat.le_refl _⟩ ?_ ?_
      · rintro r w ⟨rfl, rfl⟩; rfl
      rintro r w ⟨rfl, rfl⟩
      refine ev_nx (pc' := 49) (st' := [.int y2, .int y1]) (w' := W_X5 u) rfl rfl (by with_unfolding_all rfl) rfl rfl ?_
      refine ev_run (cs := []) (pc' := 56) (L' := [some (.ref 0), some (.int v1), none, some (.int v3), some (.int v4), some (.int v5), some (.int (y1 - y2))]) (st' := [.int (y1 - y2), .int v4]) (w' := W_X5 u) [] 4 (by with_unfolding_all rfl) trivial ?_
      refine ev_br rfl rfl (fun h4 => ?_) (fun h4 => ?_)
      · replace hR := lf_t h4 hR
        refine ev_run (cs := []) (pc' := 25) (L' := [some (.ref 0), some (.int v1), none, some (.int v3), some (.int (v4 + 1)), some (.int (v5 + 1)), some (.int (y1 - y2))]) (st' := []) (w' := W_X5 u) [] 6 (by with_unfolding_all rfl) trivial ?_
        exact ev_to2 (hk25 _ _ hR) ⟨rfl, rfl, rfl, rfl, rfl, trivial⟩ rfl rfl
      · replace hR := lf_f h4 hR
        refine ev_run (cs := []) (pc' := 61) (L' := [some (.ref 0), some (.int v1), none, some (.int v3), some (.int v4), some (.int v5), some (.int (y1 - y2))]) (st' := [.int (y1 - y2), .int v4]) (w' := W_X5 u) [] 1 (by with_unfolding_all rfl) trivial ?_
        refine ev_br rfl rfl (fun h5 => ?_) (fun h5 => ?_)
        · replace hR := lf_f h5 hR
          refine ev_run (cs := []) (pc' := 25) (L' := [some (.ref 0), some (.int v1), none, some (.int v3), some (.int (v4 + 0)), some (.int (v5 + 1)), some (.int (y1 - y2))]) (st' := []) (w' := W_X5 u) [] 5 (by with_unfolding_all rfl) trivial ?_
          exact ev_to2 (hk25 _ _ hR) ⟨rfl, rfl, rfl, rfl, rfl, trivial⟩ rfl rfl
        · replace hR := lf_t h5 hR
          refine ev_run (cs := []) (pc' := 67) (L' := [some (.ref 0), some (.int v1), none, some (.int v3), some (.int v4), some (.int v5), some (.int (y1 - y2))]) (st' := [.int v3, .int v5, .int v4]) (w' := W_X5 u) [] 2 (by with_unfolding_all rfl) trivial ?_
          refine ev_br rfl rfl (fun h6 => ?_) (fun h6 => ?_)
          · replace hR := lf_t h6 hR
            refine ev_run (cs := []) (pc' := 25) (L' := [some (.ref 0), some (.int v1), none, some (.int v3), some (.int (v4 + 0)), some (.int (v5 + 1)), some (.int (y1 - y2))]) (st' := []) (w' := W_X5 u) [] 5 (by with_unfolding_all rfl) trivial ?_
            exact ev_to2 (hk25 _ _ hR) ⟨rfl, rfl, rfl, rfl, rfl, trivial⟩ rfl rfl
          · replace hR := lf_f h6 hR
            refine ev_run (cs := []) (pc' := 25) (L' := [some (.ref 0), some (.int v1), none, some (.int v3), some (.int (v4 + 1)), some (.int (v5 + 1)), some (.int (y1 - y2))]) (st' := []) (w' := W_X5 u) [] 6 (by with_unfolding_all rfl) trivial ?_
            exact ev_to2 (hk25 _ _ hR) ⟨rfl, rfl, rfl, rfl, rfl, trivial⟩ rfl rfl

def s_X5_atPlace_l4 (F : Nat) (u : S_X5) (v1 : Int32) : Nat → Int32 → Int32 → Option Int32
  | 0 => fun _ _ => none
  | n + 1 => fun v2 v3 => if ((a_X5_state u) (3 : Int32).toNatClampNeg) ≤ v3 then (some (v2)) else (if v2 = (-1) then (s_X5_atPlace_l25 F u v1 v3 (s_X5_atPlace_l4 F u v1 n) F 0 0) else (some (v2)))
theorem e_X5_atPlace_l4 (F : Nat) (u : S_X5) (v1 : Int32) (n : Nat) (v2 : Int32) (v3 : Int32) : s_X5_atPlace_l4 F u v1 (n + 1) v2 v3 = if ((a_X5_state u) (3 : Int32).toNatClampNeg) ≤ v3 then (some (v2)) else (if v2 = (-1) then (s_X5_atPlace_l25 F u v1 v3 (s_X5_atPlace_l4 F u v1 n) F 0 0) else (some (v2))) := rfl
set_option maxHeartbeats 4000000 in
set_option maxRecDepth 20000 in
theorem t_X5_atPlace_l4 (F : Nat) (u : S_X5) (v1 : Int32) (x : Int32)  : ∀ (n : Nat) (v2 : Int32) (v3 : Int32), s_X5_atPlace_l4 F u v1 n v2 v3 = some x → ev_V mm_X5_atPlace none (ev_XR mm_X5_atPlace (fun r w => r = some (.int x) ∧ w = W_X5 u)) 4 [some (.ref 0), some (.int v1), some (.int v2), some (.int v3), none, none, none] [] (W_X5 u) 0 0 := by
  intro n
  induction n with
  | zero => intro v2 v3 hR; cases hR
  | succ n hk4 =>
    intro v2 v3 hR
    unfold s_X5_atPlace_l4 at hR
    refine ev_run (cs := [lf_ix 3 20377]) (pc' := 11) (L' := [some (.ref 0), some (.int v1), some (.int v2), some (.int v3), none, none, none]) (st' := [.int ((a_X5_state u) (3 : Int32).toNatClampNeg), .int v3]) (w' := W_X5 u) [] 5 (by with_unfolding_all rfl) (by show ¬ _; decide) ?_
    refine ev_br rfl rfl (fun h1 => ?_) (fun h1 => ?_)
    · replace hR := lf_t h1 hR
      refine ev_run (cs := []) (pc' := 103) (L' := [some (.ref 0), some (.int v1), some (.int v2), some (.int v3), none, none, none]) (st' := [.int v2]) (w' := W_X5 u) [] 1 (by with_unfolding_all rfl) trivial ?_
      cases hR
      exact ev_exit ⟨_, _, rfl, ⟨rfl, Or.inl rfl⟩, ⟨rfl, rfl⟩, Nat.le_refl _, Nat.le_refl _⟩
    · replace hR := lf_f h1 hR
      refine ev_run (cs := []) (pc' := 16) (L' := [some (.ref 0), some (.int v1), some (.int v2), some (.int v3), none, none, none]) (st' := [.int (-1), .int v2]) (w' := W_X5 u) [] 2 (by with_unfolding_all rfl) trivial ?_
      refine ev_br rfl rfl (fun h2 => ?_) (fun h2 => ?_)
      · replace hR := lf_f h2 hR
        refine ev_run (cs := []) (pc' := 103) (L' := [some (.ref 0), some (.int v1), some (.int v2), some (.int v3), none, none, none]) (st' := [.int v2]) (w' := W_X5 u) [] 1 (by with_unfolding_all rfl) trivial ?_
        cases hR
        exact ev_exit ⟨_, _, rfl, ⟨rfl, Or.inl rfl⟩, ⟨rfl, rfl⟩, Nat.le_refl _, Nat.le_refl _⟩
      · replace hR := lf_t h2 hR
        refine ev_run (cs := []) (pc' := 25) (L' := [some (.ref 0), some (.int v1), some (.int v2), some (.int v3), some (.int 0), some (.int 0), none]) (st' := []) (w' := W_X5 u) [] 4 (by with_unfolding_all rfl) trivial ?_
        exact ev_to2 (t_X5_atPlace_l25 F u v1 v3 (s_X5_atPlace_l4 F u v1 n) _ hk4 F 0 0 hR) ⟨rfl, rfl, rfl, rfl, rfl, trivial⟩ rfl rfl

def s_X5_atPlace (F : Nat) (u : S_X5) (v1 : Int32) : Option Int32 := s_X5_atPlace_l4 F u v1 F (-1) 0
set_option maxHeartbeats 4000000 in
set_option maxRecDepth 20000 in
theorem t_X5_atPlace (F : Nat) (u : S_X5) (v1 : Int32) (x : Int32) (hR : s_X5_atPlace F u v1 = some x) : ev_A yX5_atPlace mm_X5_atPlace none [.ref 0, .int v1] (W_X5 u) (fun r w => r = some (.int x) ∧ w = W_X5 u) := by
  unfold s_X5_atPlace at hR
  refine ev_start ok_X5_atPlace (by decide +kernel) rfl rfl (Nat.le_of_ble_eq_true rfl) ?_
  refine ev_run (cs := []) (pc' := 4) (L' := [some (.ref 0), some (.int v1), some (.int (-1)), some (.int 0), none, none, none]) (st' := []) (w' := W_X5 u) [] 4 (by with_unfolding_all rfl) trivial ?_
  exact ev_to2 (t_X5_atPlace_l4 F u v1 _ F (-1) 0 hR) ⟨rfl, rfl, rfl, rfl, trivial⟩ rfl rfl

def s_X5_firstDue_b34 (F : Nat) (k4 : Int32 → Int32 → Option Int32) (u : S_X5) (v1 : Int32) (v2 : Int32) (p0 : Int32) : Option Int32 := if p0 = 0 then (k4 v1 (v2 + 1)) else (if v1 = (-1) then (k4 v2 (v2 + 1)) else ((s_X5_reportPart F u v2 3).bind fun y1 => ((s_X5_reportPart F u v1 3).bind fun y2 => (if y2 ≤ y1 then (k4 v1 (v2 + 1)) else (k4 v2 (v2 + 1))))))
set_option maxHeartbeats 4000000 in
set_option maxRecDepth 20000 in
theorem t_X5_firstDue_b34 (F : Nat) (k4 : Int32 → Int32 → Option Int32) (u : S_X5) (v1 : Int32) (v2 : Int32) (p0 : Int32) (x : Int32) (hk4 : ∀ (v1 : Int32) (v2 : Int32), k4 v1 v2 = some x → ev_V mm_X5_firstDue none (ev_XR mm_X5_firstDue (fun r w => r = some (.int x) ∧ w = W_X5 u)) 4 [some (.ref 0), some (.int v1), some (.int v2), none] [] (W_X5 u) 0 0) (hR : s_X5_firstDue_b34 F k4 u v1 v2 p0 = some x) : ev_V mm_X5_firstDue none (ev_XR mm_X5_firstDue (fun r w => r = some (.int x) ∧ w = W_X5 u)) 34 [some (.ref 0), some (.int v1), some (.int v2), none] [.int p0] (W_X5 u) 0 0 := by
  unfold s_X5_firstDue_b34 at hR
  refine ev_run (cs := []) (pc' := 36) (L' := [some (.ref 0), some (.int v1), some (.int v2), some (.int p0)]) (st' := [.int p0]) (w' := W_X5 u) [] 2 (by with_unfolding_all rfl) trivial ?_
  refine ev_br rfl rfl (fun h1 => ?_) (fun h1 => ?_)
  · replace hR := lf_t h1 hR
    refine ev_run (cs := []) (pc' := 4) (L' := [some (.ref 0), some (.int v1), some (.int (v2 + 1)), some (.int p0)]) (st' := []) (w' := W_X5 u) [] 4 (by with_unfolding_all rfl) trivial ?_
    exact ev_to2 (hk4 _ _ hR) ⟨rfl, rfl, rfl, trivial⟩ rfl rfl
  · replace hR := lf_f h1 hR
    refine ev_run (cs := []) (pc' := 41) (L' := [some (.ref 0), some (.int v1), some (.int v2), some (.int p0)]) (st' := [.int (-1), .int v1]) (w' := W_X5 u) [] 2 (by with_unfolding_all rfl) trivial ?_
    refine ev_br rfl rfl (fun h2 => ?_) (fun h2 => ?_)
    · replace hR := lf_t h2 hR
      refine ev_run (cs := []) (pc' := 4) (L' := [some (.ref 0), some (.int v2), some (.int (v2 + 1)), some (.int p0)]) (st' := []) (w' := W_X5 u) [] 5 (by with_unfolding_all rfl) trivial ?_
      exact ev_to2 (hk4 _ _ hR) ⟨rfl, rfl, rfl, trivial⟩ rfl rfl
    · replace hR := lf_f h2 hR
      refine ev_run (cs := []) (pc' := 47) (L' := [some (.ref 0), some (.int v1), some (.int v2), some (.int p0)]) (st' := [.int 3, .int v2, .ref 0]) (w' := W_X5 u) [] 3 (by with_unfolding_all rfl) trivial ?_
      obtain ⟨y1, h3, hR⟩ := lf_b hR
      refine ev_callV1 0 (t_X5_reportPart F u v2 3 _ h3) cv_X5_reportPart ml_X5_61 rfl rfl rfl (Nat.le_of_ble_eq_true rfl) (by with_unfolding_all rfl) (Nat.le_of_ble_eq_true rfl) ⟨Nat.le_of_ble_eq_true rfl, Nat.le_of_ble_eq_true rfl⟩ ⟨Nat.le_refl _, Nat.le_refl _⟩ ?_ ?_
      · rintro r w ⟨rfl, rfl⟩; rfl
      rintro r w ⟨rfl, rfl⟩
      refine ev_nx (pc' := 50) (st' := [.int y1]) (w' := W_X5 u) rfl rfl (by with_unfolding_all rfl) rfl rfl ?_
      refine ev_run (cs := []) (pc' := 53) (L' := [some (.ref 0), some (.int v1), some (.int v2), some (.int p0)]) (st' := [.int 3, .int v1, .ref 0, .int y1]) (w' := W_X5 u) [] 3 (by with_unfolding_all rfl) trivial ?_
      obtain ⟨y2, h4, hR⟩ := lf_b hR
      refine ev_callV1 0 (t_X5_reportPart F u v1 3 _ h4) cv_X5_reportPart ml_X5_61 rfl rfl rfl (Nat.le_of_ble_eq_true rfl) (by with_unfolding_all rfl) (Nat.le_of_ble_eq_true rfl) ⟨Nat.le_of_ble_eq_true rfl, Nat.le_of_ble_eq_true rfl⟩ ⟨Nat.le_refl _, Nat.le_refl _⟩ ?_ ?_
      · rintro r w ⟨rfl, rfl⟩; rfl
      rintro r w ⟨rfl, rfl⟩
      refine ev_nx (pc' := 56) (st' := [.int y2, .int y1]) (w' := W_X5 u) rfl rfl (by with_unfolding_all rfl) rfl rfl ?_
      refine ev_br rfl rfl (fun h5 => ?_) (fun h5 => ?_)
      · replace hR := lf_t h5 hR
        refine ev_run (cs := []) (pc' := 4) (L' := [some (.ref 0), some (.int v1), some (.int (v2 + 1)), some (.int p0)]) (st' := []) (w' := W_X5 u) [] 4 (by with_unfolding_all rfl) trivial ?_
        exact ev_to2 (hk4 _ _ hR) ⟨rfl, rfl, rfl, trivial⟩ rfl rfl
      · replace hR := lf_f h5 hR
        refine ev_run (cs := []) (pc' := 4) (L' := [some (.ref 0), some (.int v2), some (.int (v2 + 1)), some (.int p0)]) (st' := []) (w' := W_X5 u) [] 5 (by with_unfolding_all rfl) trivial ?_
        exact ev_to2 (hk4 _ _ hR) ⟨rfl, rfl, rfl, trivial⟩ rfl rfl

def s_X5_firstDue_l4 (F : Nat) (u : S_X5) : Nat → Int32 → Int32 → Option Int32
  | 0 => fun _ _ => none
  | n + 1 => fun v1 v2 => if ((a_X5_state u) (3 : Int32).toNatClampNeg) ≤ v2 then (some (v1)) else ((s_X5_reportPart F u v2 3).bind fun y1 => (if ((a_X5_state u) (0 : Int32).toNatClampNeg) < y1 then (s_X5_firstDue_b34 F (s_X5_firstDue_l4 F u n) u v1 v2 0) else (s_X5_firstDue_b34 F (s_X5_firstDue_l4 F u n) u v1 v2 1)))
theorem e_X5_firstDue_l4 (F : Nat) (u : S_X5) (n : Nat) (v1 : Int32) (v2 : Int32) : s_X5_firstDue_l4 F u (n + 1) v1 v2 = if ((a_X5_state u) (3 : Int32).toNatClampNeg) ≤ v2 then (some (v1)) else ((s_X5_reportPart F u v2 3).bind fun y1 => (if ((a_X5_state u) (0 : Int32).toNatClampNeg) < y1 then (s_X5_firstDue_b34 F (s_X5_firstDue_l4 F u n) u v1 v2 0) else (s_X5_firstDue_b34 F (s_X5_firstDue_l4 F u n) u v1 v2 1))) := rfl
set_option maxHeartbeats 4000000 in
set_option maxRecDepth 20000 in
theorem t_X5_firstDue_l4 (F : Nat) (u : S_X5) (x : Int32)  : ∀ (n : Nat) (v1 : Int32) (v2 : Int32), s_X5_firstDue_l4 F u n v1 v2 = some x → ev_V mm_X5_firstDue none (ev_XR mm_X5_firstDue (fun r w => r = some (.int x) ∧ w = W_X5 u)) 4 [some (.ref 0), some (.int v1), some (.int v2), none] [] (W_X5 u) 0 0 := by
  intro n
  induction n with
  | zero => intro v1 v2 hR; cases hR
  | succ n hk4 =>
    intro v1 v2 hR
    unfold s_X5_firstDue_l4 at hR
    refine ev_run (cs := [lf_ix 3 20377]) (pc' := 11) (L' := [some (.ref 0), some (.int v1), some (.int v2), none]) (st' := [.int ((a_X5_state u) (3 : Int32).toNatClampNeg), .int v2]) (w' := W_X5 u) [] 5 (by with_unfolding_all rfl) (by show ¬ _; decide) ?_
    refine ev_br rfl rfl (fun h1 => ?_) (fun h1 => ?_)
    · replace hR := lf_t h1 hR
      refine ev_run (cs := []) (pc' := 72) (L' := [some (.ref 0), some (.int v1), some (.int v2), none]) (st' := [.int v1]) (w' := W_X5 u) [] 1 (by with_unfolding_all rfl) trivial ?_
      cases hR
      exact ev_exit ⟨_, _, rfl, ⟨rfl, Or.inl rfl⟩, ⟨rfl, rfl⟩, Nat.le_refl _, Nat.le_refl _⟩
    · replace hR := lf_f h1 hR
      refine ev_run (cs := []) (pc' := 17) (L' := [some (.ref 0), some (.int v1), some (.int v2), none]) (st' := [.int 3, .int v2, .ref 0]) (w' := W_X5 u) [] 3 (by with_unfolding_all rfl) trivial ?_
      obtain ⟨y1, h2, hR⟩ := lf_b hR
      refine ev_callV1 0 (t_X5_reportPart F u v2 3 _ h2) cv_X5_reportPart ml_X5_61 rfl rfl rfl (Nat.le_of_ble_eq_true rfl) (by with_unfolding_all rfl) (Nat.le_of_ble_eq_true rfl) ⟨Nat.le_of_ble_eq_true rfl, Nat.le_of_ble_eq_true rfl⟩ ⟨Nat.le_refl _, Nat.le_refl _⟩ ?_ ?_
      · rintro r w ⟨rfl, rfl⟩; rfl
      rintro r w ⟨rfl, rfl⟩
      refine ev_nx (pc' := 20) (st' := [.int y1]) (w' := W_X5 u) rfl rfl (by with_unfolding_all rfl) rfl rfl ?_
      refine ev_run (cs := [lf_ix 0 20377]) (pc' := 26) (L' := [some (.ref 0), some (.int v1), some (.int v2), none]) (st' := [.int ((a_X5_state u) (0 : Int32).toNatClampNeg), .int y1]) (w' := W_X5 u) [] 4 (by with_unfolding_all rfl) (by show ¬ _; decide) ?_
      refine ev_br rfl rfl (fun h3 => ?_) (fun h3 => ?_)
      · replace hR := lf_t h3 hR
        refine ev_run (cs := []) (pc' := 34) (L' := [some (.ref 0), some (.int v1), some (.int v2), none]) (st' := [.int 0]) (w' := W_X5 u) [] 1 (by with_unfolding_all rfl) trivial ?_
        exact ev_to2 (t_X5_firstDue_b34 F (s_X5_firstDue_l4 F u n) u v1 v2 0 _ hk4 hR) ⟨rfl, rfl, rfl, trivial⟩ rfl rfl
      · replace hR := lf_f h3 hR
        refine ev_run (cs := []) (pc' := 34) (L' := [some (.ref 0), some (.int v1), some (.int v2), none]) (st' := [.int 1]) (w' := W_X5 u) [] 2 (by with_unfolding_all rfl) trivial ?_
        exact ev_to2 (t_X5_firstDue_b34 F (s_X5_firstDue_l4 F u n) u v1 v2 1 _ hk4 hR) ⟨rfl, rfl, rfl, trivial⟩ rfl rfl

def s_X5_firstDue (F : Nat) (u : S_X5) : Option Int32 := s_X5_firstDue_l4 F u F (-1) 0
set_option maxHeartbeats 4000000 in
set_option maxRecDepth 20000 in
theorem t_X5_firstDue (F : Nat) (u : S_X5) (x : Int32) (hR : s_X5_firstDue F u = some x) : ev_A yX5_firstDue mm_X5_firstDue none [.ref 0] (W_X5 u) (fun r w => r = some (.int x) ∧ w = W_X5 u) := by
  unfold s_X5_firstDue at hR
  refine ev_start ok_X5_firstDue (by decide +kernel) rfl rfl (Nat.le_of_ble_eq_true rfl) ?_
  refine ev_run (cs := []) (pc' := 4) (L' := [some (.ref 0), some (.int (-1)), some (.int 0), none]) (st' := []) (w' := W_X5 u) [] 4 (by with_unfolding_all rfl) trivial ?_
  exact ev_to2 (t_X5_firstDue_l4 F u _ F (-1) 0 hR) ⟨rfl, rfl, rfl, trivial⟩ rfl rfl

def s_X5_dropReport_l8 (F : Nat) : Nat → S_X5 → Int32 → Option S_X5
  | 0 => fun _ _ => none
  | n + 1 => fun u v2 => if (377 + (5 * (((a_X5_state u) (3 : Int32).toNatClampNeg) - 1))) ≤ v2 then (some (m_X5_state (upd (a_X5_state u) (3 : Int32).toNatClampNeg (((a_X5_state u) (3 : Int32).toNatClampNeg) - 1)) u)) else (if lf_ix (v2 + 5) 20377 then (if lf_ix v2 20377 then (s_X5_dropReport_l8 F n (m_X5_state (upd (a_X5_state u) v2.toNatClampNeg ((a_X5_state u) ((v2 + 5).toNatClampNeg))) u) (v2 + 1)) else none) else none)
theorem e_X5_dropReport_l8 (F : Nat) (n : Nat) (u : S_X5) (v2 : Int32) : s_X5_dropReport_l8 F (n + 1) u v2 = if (377 + (5 * (((a_X5_state u) (3 : Int32).toNatClampNeg) - 1))) ≤ v2 then (some (m_X5_state (upd (a_X5_state u) (3 : Int32).toNatClampNeg (((a_X5_state u) (3 : Int32).toNatClampNeg) - 1)) u)) else (if lf_ix (v2 + 5) 20377 then (if lf_ix v2 20377 then (s_X5_dropReport_l8 F n (m_X5_state (upd (a_X5_state u) v2.toNatClampNeg ((a_X5_state u) ((v2 + 5).toNatClampNeg))) u) (v2 + 1)) else none) else none) := rfl
set_option maxHeartbeats 4000000 in
set_option maxRecDepth 20000 in
theorem t_X5_dropReport_l8 (F : Nat) (x : S_X5)  : ∀ (n : Nat) (u : S_X5) (v2 : Int32), s_X5_dropReport_l8 F n u v2 = some x → ev_V mm_X5_dropReport none (ev_XR mm_X5_dropReport (fun r w => r = none ∧ w = W_X5 x)) 8 [some (.ref 0), none, some (.int v2)] [] (W_X5 u) 0 0 := by
  intro n
  induction n with
  | zero => intro u v2 hR; cases hR
  | succ n hk8 =>
    intro u v2 hR
    unfold s_X5_dropReport_l8 at hR
    refine ev_run (cs := [lf_ix 3 20377]) (pc' := 23) (L' := [some (.ref 0), none, some (.int v2)]) (st' := [.int (377 + (5 * (((a_X5_state u) (3 : Int32).toNatClampNeg) - 1))), .int v2]) (w' := W_X5 u) [] 11 (by with_unfolding_all rfl) (by show ¬ _; decide) ?_
    refine ev_br rfl rfl (fun h1 => ?_) (fun h1 => ?_)
    · replace hR := lf_t h1 hR
      refine ev_run (cs := [lf_ix 3 20377, lf_ix 3 20377]) (pc' := 56) (L' := [some (.ref 0), none, some (.int v2)]) (st' := []) (w' := W_X5 (m_X5_state (upd (a_X5_state u) (3 : Int32).toNatClampNeg (((a_X5_state u) (3 : Int32).toNatClampNeg) - 1)) u)) [] 8 (by with_unfolding_all rfl) ⟨by show ¬ _; decide, by show ¬ _; decide⟩ ?_
      cases hR
      exact ev_exit ⟨_, _, rfl, ⟨rfl, rfl⟩, ⟨rfl, rfl⟩, Nat.le_refl _, Nat.le_refl _⟩
    · replace hR := lf_f h1 hR
      obtain ⟨h2, hR⟩ := lf_g hR
      obtain ⟨h3, hR⟩ := lf_g hR
      refine ev_run (cs := [lf_ix (v2 + 5) 20377, lf_ix v2 20377]) (pc' := 8) (L' := [some (.ref 0), none, some (.int (v2 + 1))]) (st' := []) (w' := W_X5 (m_X5_state (upd (a_X5_state u) v2.toNatClampNeg ((a_X5_state u) ((v2 + 5).toNatClampNeg))) u)) [] 12 (by with_unfolding_all rfl) ⟨h2, h3⟩ ?_
      exact ev_to2 (hk8 _ _ hR) ⟨rfl, rfl, trivial⟩ rfl rfl

def s_X5_dropReport (F : Nat) (u : S_X5) (v1 : Int32) : Option S_X5 := s_X5_dropReport_l8 F F u (377 + (5 * v1))
set_option maxHeartbeats 4000000 in
set_option maxRecDepth 20000 in
theorem t_X5_dropReport (F : Nat) (u : S_X5) (v1 : Int32) (x : S_X5) (hR : s_X5_dropReport F u v1 = some x) : ev_A yX5_dropReport mm_X5_dropReport none [.ref 0, .int v1] (W_X5 u) (fun r w => r = none ∧ w = W_X5 x) := by
  unfold s_X5_dropReport at hR
  refine ev_start ok_X5_dropReport (by decide +kernel) rfl rfl (Nat.le_of_ble_eq_true rfl) ?_
  refine ev_run (cs := []) (pc' := 8) (L' := [some (.ref 0), some (.int v1), some (.int (377 + (5 * v1)))]) (st' := []) (w' := W_X5 u) [] 6 (by with_unfolding_all rfl) trivial ?_
  exact ev_to2 (t_X5_dropReport_l8 F _ F u (377 + (5 * v1)) hR) ⟨rfl, rfl, trivial⟩ rfl rfl

def s_X5_endsToo (F : Nat) (u : S_X5) (v1 : Int32) (v2 : Int32) : Option Bool := if v2 = 2 then (if lf_ix v1 24 then (if ((a_X5_isInSet u) v1.toNatClampNeg) = 1 then (if lf_ix v1 24 then (if ((a_X5_isInnocent u) v1.toNatClampNeg) = 0 then (some (true)) else (some (false))) else none) else (some (false))) else none) else (some (false))
set_option maxHeartbeats 4000000 in
set_option maxRecDepth 20000 in
theorem t_X5_endsToo (F : Nat) (u : S_X5) (v1 : Int32) (v2 : Int32) (x : Bool) (hR : s_X5_endsToo F u v1 v2 = some x) : ev_A yX5_endsToo mm_X5_endsToo none [.ref 0, .int v1, .int v2] (W_X5 u) (fun r w => r = some (.int (ev_b x)) ∧ w = W_X5 u) := by
  unfold s_X5_endsToo at hR
  refine ev_start ok_X5_endsToo (by decide +kernel) rfl rfl (Nat.le_of_ble_eq_true rfl) ?_
  refine ev_run (cs := []) (pc' := 2) (L' := [some (.ref 0), some (.int v1), some (.int v2)]) (st' := [.int 2, .int v2]) (w' := W_X5 u) [] 2 (by with_unfolding_all rfl) trivial ?_
  refine ev_br rfl rfl (fun h1 => ?_) (fun h1 => ?_)
  · replace hR := lf_f h1 hR
    refine ev_run (cs := []) (pc' := 29) (L' := [some (.ref 0), some (.int v1), some (.int v2)]) (st' := [.int 0]) (w' := W_X5 u) [] 1 (by with_unfolding_all rfl) trivial ?_
    cases hR
    exact ev_exit ⟨_, _, rfl, ⟨rfl, Or.inr ⟨rfl, rfl⟩⟩, ⟨rfl, rfl⟩, Nat.le_refl _, Nat.le_refl _⟩
  · replace hR := lf_t h1 hR
    obtain ⟨h2, hR⟩ := lf_g hR
    refine ev_run (cs := [lf_ix v1 24]) (pc' := 12) (L' := [some (.ref 0), some (.int v1), some (.int v2)]) (st' := [.int 1, .int ((a_X5_isInSet u) v1.toNatClampNeg)]) (w' := W_X5 u) [] 5 (by with_unfolding_all rfl) (h2) ?_
    refine ev_br rfl rfl (fun h3 => ?_) (fun h3 => ?_)
    · replace hR := lf_f h3 hR
      refine ev_run (cs := []) (pc' := 29) (L' := [some (.ref 0), some (.int v1), some (.int v2)]) (st' := [.int 0]) (w' := W_X5 u) [] 1 (by with_unfolding_all rfl) trivial ?_
      cases hR
      exact ev_exit ⟨_, _, rfl, ⟨rfl, Or.inr ⟨rfl, rfl⟩⟩, ⟨rfl, rfl⟩, Nat.le_refl _, Nat.le_refl _⟩
    · replace hR := lf_t h3 hR
      obtain ⟨h4, hR⟩ := lf_g hR
      refine ev_run (cs := [lf_ix v1 24]) (pc' := 21) (L' := [some (.ref 0), some (.int v1), some (.int v2)]) (st' := [.int ((a_X5_isInnocent u) v1.toNatClampNeg)]) (w' := W_X5 u) [] 4 (by with_unfolding_all rfl) (h4) ?_
      refine ev_br rfl rfl (fun h5 => ?_) (fun h5 => ?_)
      · replace hR := lf_f h5 hR
        refine ev_run (cs := []) (pc' := 29) (L' := [some (.ref 0), some (.int v1), some (.int v2)]) (st' := [.int 0]) (w' := W_X5 u) [] 1 (by with_unfolding_all rfl) trivial ?_
        cases hR
        exact ev_exit ⟨_, _, rfl, ⟨rfl, Or.inr ⟨rfl, rfl⟩⟩, ⟨rfl, rfl⟩, Nat.le_refl _, Nat.le_refl _⟩
      · replace hR := lf_t h5 hR
        refine ev_run (cs := []) (pc' := 29) (L' := [some (.ref 0), some (.int v1), some (.int v2)]) (st' := [.int 1]) (w' := W_X5 u) [] 2 (by with_unfolding_all rfl) trivial ?_
        cases hR
        exact ev_exit ⟨_, _, rfl, ⟨rfl, Or.inr ⟨rfl, rfl⟩⟩, ⟨rfl, rfl⟩, Nat.le_refl _, Nat.le_refl _⟩

def s_X5_ends_b193 (F : Nat) (k164 : S_X5 → Int32 → Int32 → Option S_X5) (u : S_X5) (v1 : Int32) (v2 : Int32) (v4 : Int32) (p0 : Int32) : Option S_X5 := if lf_ix (13 + v4) 20377 then (if ((a_X5_state u) ((13 + v4).toNatClampNeg)) = v1 then (if lf_ix (13 + v4) 20377 then (k164 (m_X5_state (upd (a_X5_state u) ((13 + v4).toNatClampNeg) (-1)) u) p0 (v4 + 1)) else none) else (if lf_ix (13 + v4) 20377 then (if lf_ix (13 + v4) 20377 then (k164 (m_X5_state (upd (a_X5_state u) ((13 + v4).toNatClampNeg) ((a_X5_state u) ((13 + v4).toNatClampNeg))) u) p0 (v4 + 1)) else none) else none)) else none
set_option maxHeartbeats 4000000 in
set_option maxRecDepth 20000 in
theorem t_X5_ends_b193 (F : Nat) (k164 : S_X5 → Int32 → Int32 → Option S_X5) (u : S_X5) (v1 : Int32) (v2 : Int32) (v4 : Int32) (p0 : Int32) (x : S_X5) (hk164 : ∀ (u : S_X5) (v3 : Int32) (v4 : Int32), k164 u v3 v4 = some x → ev_V mm_X5_ends none (ev_XR mm_X5_ends (fun r w => r = none ∧ w = W_X5 x)) 164 [some (.ref 0), some (.int v1), some (.int v2), some (.int v3), some (.int v4), none] [] (W_X5 u) 0 0) (hR : s_X5_ends_b193 F k164 u v1 v2 v4 p0 = some x) : ev_V mm_X5_ends none (ev_XR mm_X5_ends (fun r w => r = none ∧ w = W_X5 x)) 193 [some (.ref 0), some (.int v1), some (.int v2), none, some (.int v4), none] [.int p0] (W_X5 u) 0 0 := by
  unfold s_X5_ends_b193 at hR
  obtain ⟨h1, hR⟩ := lf_g hR
  refine ev_run (cs := [lf_ix (13 + v4) 20377]) (pc' := 213) (L' := [some (.ref 0), some (.int v1), some (.int v2), some (.int p0), some (.int v4), none]) (st' := [.int ((a_X5_state u) ((13 + v4).toNatClampNeg)), .int (13 + v4), .ref 1]) (w' := W_X5 u) [] 12 (by with_unfolding_all rfl) (h1) ?_
  refine ev_run (cs := []) (pc' := 214) (L' := [some (.ref 0), some (.int v1), some (.int v2), some (.int p0), some (.int v4), none]) (st' := [.int v1, .int ((a_X5_state u) ((13 + v4).toNatClampNeg)), .int (13 + v4), .ref 1]) (w' := W_X5 u) [] 1 (by with_unfolding_all rfl) trivial ?_
  refine ev_br rfl rfl (fun h2 => ?_) (fun h2 => ?_)
  · replace hR := lf_f h2 hR
    obtain ⟨h3, hR⟩ := lf_g hR
    obtain ⟨h4, hR⟩ := lf_g hR
    refine ev_run (cs := [lf_ix (13 + v4) 20377, lf_ix (13 + v4) 20377]) (pc' := 164) (L' := [some (.ref 0), some (.int v1), some (.int v2), some (.int p0), some (.int (v4 + 1)), none]) (st' := []) (w' := W_X5 (m_X5_state (upd (a_X5_state u) ((13 + v4).toNatClampNeg) ((a_X5_state u) ((13 + v4).toNatClampNeg))) u)) [] 9 (by with_unfolding_all rfl) ⟨h3, h4⟩ ?_
    exact ev_to2 (hk164 _ _ _ hR) ⟨rfl, rfl, rfl, rfl, rfl, trivial⟩ rfl rfl
  · replace hR := lf_t h2 hR
    obtain ⟨h5, hR⟩ := lf_g hR
    refine ev_run (cs := [lf_ix (13 + v4) 20377]) (pc' := 164) (L' := [some (.ref 0), some (.int v1), some (.int v2), some (.int p0), some (.int (v4 + 1)), none]) (st' := []) (w' := W_X5 (m_X5_state (upd (a_X5_state u) ((13 + v4).toNatClampNeg) (-1)) u)) [] 5 (by with_unfolding_all rfl) (h5) ?_
    exact ev_to2 (hk164 _ _ _ hR) ⟨rfl, rfl, rfl, rfl, rfl, trivial⟩ rfl rfl

def s_X5_ends_b336 (F : Nat) (u : S_X5) (v3 : Int32) (p1 : Int32) (p2 : Int32) (p3 : Int32) : Option S_X5 := (s_X5_setPart F u p1 p2 p3).bind fun y1 => (if v3 = 0 then (some (m_X5_state (upd (a_X5_state y1) (6 : Int32).toNatClampNeg (((a_X5_state y1) (6 : Int32).toNatClampNeg) + 0)) y1)) else (some (m_X5_state (upd (a_X5_state y1) (6 : Int32).toNatClampNeg (((a_X5_state y1) (6 : Int32).toNatClampNeg) + 1)) y1)))
set_option maxHeartbeats 4000000 in
set_option maxRecDepth 20000 in
theorem t_X5_ends_b336 (F : Nat) (u : S_X5) (v3 : Int32) (p1 : Int32) (p2 : Int32) (p3 : Int32) (x : S_X5)  (hR : s_X5_ends_b336 F u v3 p1 p2 p3 = some x) : ev_V mm_X5_ends none (ev_XR mm_X5_ends (fun r w => r = none ∧ w = W_X5 x)) 336 [some (.ref 0), none, none, some (.int v3), none, none] [.int p3, .int p2, .int p1, .ref 0] (W_X5 u) 0 0 := by
  unfold s_X5_ends_b336 at hR
  obtain ⟨y1, h1, hR⟩ := lf_b hR
  refine ev_callV1 0 (t_X5_setPart F u p1 p2 p3 _ h1) cv_X5_setPart ml_X5_71 rfl rfl rfl (Nat.le_of_ble_eq_true rfl) (by with_unfolding_all rfl) (Nat.le_of_ble_eq_true rfl) ⟨Nat.le_of_ble_eq_true rfl, Nat.le_of_ble_eq_true rfl⟩ ⟨Nat.le_refl _, Nat.le_refl _⟩ ?_ ?_
  · rintro r w ⟨rfl, rfl⟩; rfl
  rintro r w ⟨rfl, rfl⟩
  refine ev_nx (pc' := 339) (st' := []) (w' := W_X5 y1) rfl rfl (by with_unfolding_all rfl) rfl rfl ?_
  refine ev_run (cs := [lf_ix 6 20377]) (pc' := 348) (L' := [some (.ref 0), none, none, some (.int v3), none, none]) (st' := [.int v3, .int ((a_X5_state y1) (6 : Int32).toNatClampNeg), .int 6, .ref 1]) (w' := W_X5 y1) [] 6 (by with_unfolding_all rfl) (by show ¬ _; decide) ?_
  refine ev_br rfl rfl (fun h2 => ?_) (fun h2 => ?_)
  · replace hR := lf_t h2 hR
    refine ev_run (cs := [lf_ix 6 20377]) (pc' := 358) (L' := [some (.ref 0), none, none, some (.int v3), none, none]) (st' := []) (w' := W_X5 (m_X5_state (upd (a_X5_state y1) (6 : Int32).toNatClampNeg (((a_X5_state y1) (6 : Int32).toNatClampNeg) + 0)) y1)) [] 3 (by with_unfolding_all rfl) (by show ¬ _; decide) ?_
    cases hR
    exact ev_exit ⟨_, _, rfl, ⟨rfl, rfl⟩, ⟨rfl, rfl⟩, Nat.le_refl _, Nat.le_refl _⟩
  · replace hR := lf_f h2 hR
    refine ev_run (cs := [lf_ix 6 20377]) (pc' := 358) (L' := [some (.ref 0), none, none, some (.int v3), none, none]) (st' := []) (w' := W_X5 (m_X5_state (upd (a_X5_state y1) (6 : Int32).toNatClampNeg (((a_X5_state y1) (6 : Int32).toNatClampNeg) + 1)) y1)) [] 4 (by with_unfolding_all rfl) (by show ¬ _; decide) ?_
    cases hR
    exact ev_exit ⟨_, _, rfl, ⟨rfl, rfl⟩, ⟨rfl, rfl⟩, Nat.le_refl _, Nat.le_refl _⟩

def s_X5_ends_b323 (F : Nat) (u : S_X5) (v1 : Int32) (v3 : Int32) : Option S_X5 := if v3 = 0 then (s_X5_ends_b336 F u v3 v1 8 0) else (s_X5_ends_b336 F u v3 v1 8 1)
set_option maxHeartbeats 4000000 in
set_option maxRecDepth 20000 in
theorem t_X5_ends_b323 (F : Nat) (u : S_X5) (v1 : Int32) (v3 : Int32) (x : S_X5)  (hR : s_X5_ends_b323 F u v1 v3 = some x) : ev_V mm_X5_ends none (ev_XR mm_X5_ends (fun r w => r = none ∧ w = W_X5 x)) 323 [some (.ref 0), some (.int v1), none, some (.int v3), none, none] [] (W_X5 u) 0 0 := by
  unfold s_X5_ends_b323 at hR
  refine ev_run (cs := []) (pc' := 328) (L' := [some (.ref 0), some (.int v1), none, some (.int v3), none, none]) (st' := [.int v3, .int 8, .int v1, .ref 0]) (w' := W_X5 u) [] 4 (by with_unfolding_all rfl) trivial ?_
  refine ev_br rfl rfl (fun h1 => ?_) (fun h1 => ?_)
  · replace hR := lf_t h1 hR
    refine ev_run (cs := []) (pc' := 336) (L' := [some (.ref 0), some (.int v1), none, some (.int v3), none, none]) (st' := [.int 0, .int 8, .int v1, .ref 0]) (w' := W_X5 u) [] 1 (by with_unfolding_all rfl) trivial ?_
    exact ev_to2 (t_X5_ends_b336 F u v3 v1 8 0 _ hR) ⟨rfl, rfl, trivial⟩ rfl rfl
  · replace hR := lf_f h1 hR
    refine ev_run (cs := []) (pc' := 336) (L' := [some (.ref 0), some (.int v1), none, some (.int v3), none, none]) (st' := [.int 1, .int 8, .int v1, .ref 0]) (w' := W_X5 u) [] 2 (by with_unfolding_all rfl) trivial ?_
    exact ev_to2 (t_X5_ends_b336 F u v3 v1 8 1 _ hR) ⟨rfl, rfl, trivial⟩ rfl rfl

def s_X5_ends_l255 (F : Nat) (v1 : Int32) (v2 : Int32) (v4 : Int32) (k241 : S_X5 → Int32 → Int32 → Option S_X5) : Nat → S_X5 → Int32 → Int32 → Option S_X5
  | 0 => fun _ _ _ => none
  | n + 1 => fun u v3 v5 => if 4 ≤ v5 then (k241 u v3 (v4 + 1)) else ((s_X5_lives F u v4).bind fun y1 => (if y1 then ((s_X5_endsToo F u v4 v2).bind fun y2 => (if y2 then (k241 u v3 (v4 + 1)) else ((s_X5_slotOf F u v4 v5).bind fun y3 => (if y3 = v1 then (if lf_ix ((257 + (4 * v4)) + v5) 20377 then (s_X5_ends_l255 F v1 v2 v4 k241 n (m_X5_state (upd (a_X5_state u) (((257 + (4 * v4)) + v5).toNatClampNeg) (-1)) u) 1 (v5 + 1)) else none) else (s_X5_ends_l255 F v1 v2 v4 k241 n u v3 (v5 + 1)))))) else (k241 u v3 (v4 + 1))))
theorem e_X5_ends_l255 (F : Nat) (v1 : Int32) (v2 : Int32) (v4 : Int32) (k241 : S_X5 → Int32 → Int32 → Option S_X5) (n : Nat) (u : S_X5) (v3 : Int32) (v5 : Int32) : s_X5_ends_l255 F v1 v2 v4 k241 (n + 1) u v3 v5 = if 4 ≤ v5 then (k241 u v3 (v4 + 1)) else ((s_X5_lives F u v4).bind fun y1 => (if y1 then ((s_X5_endsToo F u v4 v2).bind fun y2 => (if y2 then (k241 u v3 (v4 + 1)) else ((s_X5_slotOf F u v4 v5).bind fun y3 => (if y3 = v1 then (if lf_ix ((257 + (4 * v4)) + v5) 20377 then (s_X5_ends_l255 F v1 v2 v4 k241 n (m_X5_state (upd (a_X5_state u) (((257 + (4 * v4)) + v5).toNatClampNeg) (-1)) u) 1 (v5 + 1)) else none) else (s_X5_ends_l255 F v1 v2 v4 k241 n u v3 (v5 + 1)))))) else (k241 u v3 (v4 + 1)))) := rfl
set_option maxHeartbeats 4000000 in
set_option maxRecDepth 20000 in
theorem t_X5_ends_l255 (F : Nat) (v1 : Int32) (v2 : Int32) (v4 : Int32) (k241 : S_X5 → Int32 → Int32 → Option S_X5) (x : S_X5) (hk241 : ∀ (u : S_X5) (v3 : Int32) (v4 : Int32), k241 u v3 v4 = some x → ev_V mm_X5_ends none (ev_XR mm_X5_ends (fun r w => r = none ∧ w = W_X5 x)) 241 [some (.ref 0), some (.int v1), some (.int v2), some (.int v3), some (.int v4), none] [] (W_X5 u) 0 0) : ∀ (n : Nat) (u : S_X5) (v3 : Int32) (v5 : Int32), s_X5_ends_l255 F v1 v2 v4 k241 n u v3 v5 = some x → ev_V mm_X5_ends none (ev_XR mm_X5_ends (fun r w => r = none ∧ w = W_X5 x)) 255 [some (.ref 0), some (.int v1), some (.int v2), some (.int v3), some (.int v4), some (.int v5)] [] (W_X5 u) 0 0 := by
  intro n
  induction n with
  | zero => intro u v3 v5 hR; cases hR
  | succ n hk255 =>
    intro u v3 v5 hR
    unfold s_X5_ends_l255 at hR
    refine ev_run (cs := []) (pc' := 258) (L' := [some (.ref 0), some (.int v1), some (.int v2), some (.int v3), some (.int v4), some (.int v5)]) (st' := [.int 4, .int v5]) (w' := W_X5 u) [] 2 (by with_unfolding_all rfl) trivial ?_
    refine ev_br rfl rfl (fun h1 => ?_) (fun h1 => ?_)
    · replace hR := lf_t h1 hR
      refine ev_run (cs := []) (pc' := 241) (L' := [some (.ref 0), some (.int v1), some (.int v2), some (.int v3), some (.int (v4 + 1)), some (.int v5)]) (st' := []) (w' := W_X5 u) [] 2 (by with_unfolding_all rfl) trivial ?_
      exact ev_to2 (hk241 _ _ _ hR) ⟨rfl, rfl, rfl, rfl, rfl, trivial⟩ rfl rfl
    · replace hR := lf_f h1 hR
      refine ev_run (cs := []) (pc' := 264) (L' := [some (.ref 0), some (.int v1), some (.int v2), some (.int v3), some (.int v4), some (.int v5)]) (st' := [.int v4, .ref 0]) (w' := W_X5 u) [] 2 (by with_unfolding_all rfl) trivial ?_
      obtain ⟨y1, h2, hR⟩ := lf_b hR
      refine ev_callV1 0 (t_X5_lives F u v4 _ h2) cv_X5_lives ml_X5_54 rfl rfl rfl (Nat.le_of_ble_eq_true rfl) (by with_unfolding_all rfl) (Nat.le_of_ble_eq_true rfl) ⟨Nat.le_of_ble_eq_true rfl, Nat.le_of_ble_eq_true rfl⟩ ⟨Nat.le_refl _, Nat.le_refl _⟩ ?_ ?_
      · rintro r w ⟨rfl, rfl⟩; rfl
      rintro r w ⟨rfl, rfl⟩
      refine ev_nx (pc' := 267) (st' := [.int (ev_b y1)]) (w' := W_X5 u) rfl rfl (by with_unfolding_all rfl) rfl rfl ?_
      refine ev_br rfl rfl (fun h3 => ?_) (fun h3 => ?_)
      · replace hR := lf_z0 h3 hR
        refine ev_run (cs := []) (pc' := 241) (L' := [some (.ref 0), some (.int v1), some (.int v2), some (.int v3), some (.int (v4 + 1)), some (.int v5)]) (st' := []) (w' := W_X5 u) [] 2 (by with_unfolding_all rfl) trivial ?_
        exact ev_to2 (hk241 _ _ _ hR) ⟨rfl, rfl, rfl, rfl, rfl, trivial⟩ rfl rfl
      · replace hR := lf_z1 h3 hR
        refine ev_run (cs := []) (pc' := 274) (L' := [some (.ref 0), some (.int v1), some (.int v2), some (.int v3), some (.int v4), some (.int v5)]) (st' := [.int v2, .int v4, .ref 0]) (w' := W_X5 u) [] 3 (by with_unfolding_all rfl) trivial ?_
        obtain ⟨y2, h4, hR⟩ := lf_b hR
        refine ev_callV1 0 (t_X5_endsToo F u v4 v2 _ h4) cv_X5_endsToo ml_X5_75 rfl rfl rfl (Nat.le_of_ble_eq_true rfl) (by with_unfolding_all rfl) (Nat.le_of_ble_eq_true rfl) ⟨Nat.le_of_ble_eq_true rfl, Nat.le_of_ble_eq_true rfl⟩ ⟨Nat.le_refl _, Nat.le_refl _⟩ ?_ ?_
        · rintro r w ⟨rfl, rfl⟩; rfl
        rintro r w ⟨rfl, rfl⟩
        refine ev_nx (pc' := 277) (st' := [.int (ev_b y2)]) (w' := W_X5 u) rfl rfl (by with_unfolding_all rfl) rfl rfl ?_
        refine ev_br rfl rfl (fun h5 => ?_) (fun h5 => ?_)
        · replace hR := lf_z1 h5 hR
          refine ev_run (cs := []) (pc' := 241) (L' := [some (.ref 0), some (.int v1), some (.int v2), some (.int v3), some (.int (v4 + 1)), some (.int v5)]) (st' := []) (w' := W_X5 u) [] 2 (by with_unfolding_all rfl) trivial ?_
          exact ev_to2 (hk241 _ _ _ hR) ⟨rfl, rfl, rfl, rfl, rfl, trivial⟩ rfl rfl
        · replace hR := lf_z0 h5 hR
          refine ev_run (cs := []) (pc' := 285) (L' := [some (.ref 0), some (.int v1), some (.int v2), some (.int v3), some (.int v4), some (.int v5)]) (st' := [.int v5, .int v4, .ref 0]) (w' := W_X5 u) [] 3 (by with_unfolding_all rfl) trivial ?_
          obtain ⟨y3, h6, hR⟩ := lf_b hR
          refine ev_callV1 0 (t_X5_slotOf F u v4 v5 _ h6) cv_X5_slotOf ml_X5_58 rfl rfl rfl (Nat.le_of_ble_eq_true rfl) (by with_unfolding_all rfl) (Nat.le_of_ble_eq_true rfl) ⟨Nat.le_of_ble_eq_true rfl, Nat.le_of_ble_eq_true rfl⟩ ⟨Nat.le_refl _, Nat.le_refl _⟩ ?_ ?_
          · rintro r w ⟨rfl, rfl⟩; rfl
          rintro r w ⟨rfl, rfl⟩
          refine ev_nx (pc' := 288) (st' := [.int y3]) (w' := W_X5 u) rfl rfl (by with_unfolding_all rfl) rfl rfl ?_
          refine ev_run (cs := []) (pc' := 289) (L' := [some (.ref 0), some (.int v1), some (.int v2), some (.int v3), some (.int v4), some (.int v5)]) (st' := [.int v1, .int y3]) (w' := W_X5 u) [] 1 (by with_unfolding_all rfl) trivial ?_
          refine ev_br rfl rfl (fun h7 => ?_) (fun h7 => ?_)
          · replace hR := lf_f h7 hR
            refine ev_run (cs := []) (pc' := 255) (L' := [some (.ref 0), some (.int v1), some (.int v2), some (.int v3), some (.int v4), some (.int (v5 + 1))]) (st' := []) (w' := W_X5 u) [] 2 (by with_unfolding_all rfl) trivial ?_
            exact ev_to2 (hk255 _ _ _ hR) ⟨rfl, rfl, rfl, rfl, rfl, rfl, trivial⟩ rfl rfl
          · replace hR := lf_t h7 hR
            refine ev_run (cs := []) (pc' := 310) (L' := [some (.ref 0), some (.int v1), some (.int v2), some (.int 1), some (.int v4), some (.int v5)]) (st' := [.int (-1), .int ((257 + (4 * v4)) + v5), .ref 1]) (w' := W_X5 u) [] 12 (by with_unfolding_all rfl) trivial ?_
            obtain ⟨h8, hR⟩ := lf_g hR
            refine ev_run (cs := [lf_ix ((257 + (4 * v4)) + v5) 20377]) (pc' := 255) (L' := [some (.ref 0), some (.int v1), some (.int v2), some (.int 1), some (.int v4), some (.int (v5 + 1))]) (st' := []) (w' := W_X5 (m_X5_state (upd (a_X5_state u) (((257 + (4 * v4)) + v5).toNatClampNeg) (-1)) u)) [] 3 (by with_unfolding_all rfl) (h8) ?_
            exact ev_to2 (hk255 _ _ _ hR) ⟨rfl, rfl, rfl, rfl, rfl, rfl, trivial⟩ rfl rfl

def s_X5_ends_l241 (F : Nat) (v1 : Int32) (v2 : Int32) : Nat → S_X5 → Int32 → Int32 → Option S_X5
  | 0 => fun _ _ _ => none
  | n + 1 => fun u v3 v4 => if ((a_X5_state u) (1 : Int32).toNatClampNeg) ≤ v4 then (s_X5_ends_b323 F u v1 v3) else (s_X5_ends_l255 F v1 v2 v4 (s_X5_ends_l241 F v1 v2 n) F u v3 0)
theorem e_X5_ends_l241 (F : Nat) (v1 : Int32) (v2 : Int32) (n : Nat) (u : S_X5) (v3 : Int32) (v4 : Int32) : s_X5_ends_l241 F v1 v2 (n + 1) u v3 v4 = if ((a_X5_state u) (1 : Int32).toNatClampNeg) ≤ v4 then (s_X5_ends_b323 F u v1 v3) else (s_X5_ends_l255 F v1 v2 v4 (s_X5_ends_l241 F v1 v2 n) F u v3 0) := rfl
set_option maxHeartbeats 4000000 in
set_option maxRecDepth 20000 in
theorem t_X5_ends_l241 (F : Nat) (v1 : Int32) (v2 : Int32) (x : S_X5)  : ∀ (n : Nat) (u : S_X5) (v3 : Int32) (v4 : Int32), s_X5_ends_l241 F v1 v2 n u v3 v4 = some x → ev_V mm_X5_ends none (ev_XR mm_X5_ends (fun r w => r = none ∧ w = W_X5 x)) 241 [some (.ref 0), some (.int v1), some (.int v2), some (.int v3), some (.int v4), none] [] (W_X5 u) 0 0 := by
  intro n
  induction n with
  | zero => intro u v3 v4 hR; cases hR
  | succ n hk241 =>
    intro u v3 v4 hR
    unfold s_X5_ends_l241 at hR
    refine ev_run (cs := [lf_ix 1 20377]) (pc' := 249) (L' := [some (.ref 0), some (.int v1), some (.int v2), some (.int v3), some (.int v4), none]) (st' := [.int ((a_X5_state u) (1 : Int32).toNatClampNeg), .int v4]) (w' := W_X5 u) [] 5 (by with_unfolding_all rfl) (by show ¬ _; decide) ?_
    refine ev_br rfl rfl (fun h1 => ?_) (fun h1 => ?_)
    · replace hR := lf_t h1 hR
      exact ev_to2 (t_X5_ends_b323 F u v1 v3 _ hR) ⟨rfl, rfl, rfl, trivial⟩ rfl rfl
    · replace hR := lf_f h1 hR
      refine ev_run (cs := []) (pc' := 255) (L' := [some (.ref 0), some (.int v1), some (.int v2), some (.int v3), some (.int v4), some (.int 0)]) (st' := []) (w' := W_X5 u) [] 2 (by with_unfolding_all rfl) trivial ?_
      exact ev_to2 (t_X5_ends_l255 F v1 v2 v4 (s_X5_ends_l241 F v1 v2 n) _ hk241 F u v3 0 hR) ⟨rfl, rfl, rfl, rfl, rfl, rfl, trivial⟩ rfl rfl

def s_X5_ends_l164 (F : Nat) (v1 : Int32) (v2 : Int32) : Nat → S_X5 → Int32 → Int32 → Option S_X5
  | 0 => fun _ _ _ => none
  | n + 1 => fun u v3 v4 => if 4 ≤ v4 then (s_X5_ends_l241 F v1 v2 F u v3 0) else (if v3 = 0 then (if lf_ix (13 + v4) 20377 then (if ((a_X5_state u) ((13 + v4).toNatClampNeg)) = v1 then (s_X5_ends_b193 F (s_X5_ends_l164 F v1 v2 n) u v1 v2 v4 1) else (s_X5_ends_b193 F (s_X5_ends_l164 F v1 v2 n) u v1 v2 v4 0)) else none) else (s_X5_ends_b193 F (s_X5_ends_l164 F v1 v2 n) u v1 v2 v4 1))
theorem e_X5_ends_l164 (F : Nat) (v1 : Int32) (v2 : Int32) (n : Nat) (u : S_X5) (v3 : Int32) (v4 : Int32) : s_X5_ends_l164 F v1 v2 (n + 1) u v3 v4 = if 4 ≤ v4 then (s_X5_ends_l241 F v1 v2 F u v3 0) else (if v3 = 0 then (if lf_ix (13 + v4) 20377 then (if ((a_X5_state u) ((13 + v4).toNatClampNeg)) = v1 then (s_X5_ends_b193 F (s_X5_ends_l164 F v1 v2 n) u v1 v2 v4 1) else (s_X5_ends_b193 F (s_X5_ends_l164 F v1 v2 n) u v1 v2 v4 0)) else none) else (s_X5_ends_b193 F (s_X5_ends_l164 F v1 v2 n) u v1 v2 v4 1)) := rfl
set_option maxHeartbeats 4000000 in
set_option maxRecDepth 20000 in
theorem t_X5_ends_l164 (F : Nat) (v1 : Int32) (v2 : Int32) (x : S_X5)  : ∀ (n : Nat) (u : S_X5) (v3 : Int32) (v4 : Int32), s_X5_ends_l164 F v1 v2 n u v3 v4 = some x → ev_V mm_X5_ends none (ev_XR mm_X5_ends (fun r w => r = none ∧ w = W_X5 x)) 164 [some (.ref 0), some (.int v1), some (.int v2), some (.int v3), some (.int v4), none] [] (W_X5 u) 0 0 := by
  intro n
  induction n with
  | zero => intro u v3 v4 hR; cases hR
  | succ n hk164 =>
    intro u v3 v4 hR
    unfold s_X5_ends_l164 at hR
    refine ev_run (cs := []) (pc' := 167) (L' := [some (.ref 0), some (.int v1), some (.int v2), some (.int v3), some (.int v4), none]) (st' := [.int 4, .int v4]) (w' := W_X5 u) [] 2 (by with_unfolding_all rfl) trivial ?_
    refine ev_br rfl rfl (fun h1 => ?_) (fun h1 => ?_)
    · replace hR := lf_t h1 hR
      refine ev_run (cs := []) (pc' := 241) (L' := [some (.ref 0), some (.int v1), some (.int v2), some (.int v3), some (.int 0), none]) (st' := []) (w' := W_X5 u) [] 2 (by with_unfolding_all rfl) trivial ?_
      exact ev_to2 (t_X5_ends_l241 F v1 v2 _ F u v3 0 hR) ⟨rfl, rfl, rfl, rfl, rfl, trivial⟩ rfl rfl
    · replace hR := lf_f h1 hR
      refine ev_run (cs := []) (pc' := 171) (L' := [some (.ref 0), some (.int v1), some (.int v2), some (.int v3), some (.int v4), none]) (st' := [.int v3]) (w' := W_X5 u) [] 1 (by with_unfolding_all rfl) trivial ?_
      refine ev_br rfl rfl (fun h2 => ?_) (fun h2 => ?_)
      · replace hR := lf_f h2 hR
        refine ev_run (cs := []) (pc' := 193) (L' := [some (.ref 0), some (.int v1), some (.int v2), some (.int v3), some (.int v4), none]) (st' := [.int 1]) (w' := W_X5 u) [] 2 (by with_unfolding_all rfl) trivial ?_
        exact ev_to2 (t_X5_ends_b193 F (s_X5_ends_l164 F v1 v2 n) u v1 v2 v4 1 _ hk164 hR) ⟨rfl, rfl, rfl, rfl, trivial⟩ rfl rfl
      · replace hR := lf_t h2 hR
        obtain ⟨h3, hR⟩ := lf_g hR
        refine ev_run (cs := [lf_ix (13 + v4) 20377]) (pc' := 185) (L' := [some (.ref 0), some (.int v1), some (.int v2), some (.int v3), some (.int v4), none]) (st' := [.int v1, .int ((a_X5_state u) ((13 + v4).toNatClampNeg))]) (w' := W_X5 u) [] 7 (by with_unfolding_all rfl) (h3) ?_
        refine ev_br rfl rfl (fun h4 => ?_) (fun h4 => ?_)
        · replace hR := lf_f h4 hR
          refine ev_run (cs := []) (pc' := 193) (L' := [some (.ref 0), some (.int v1), some (.int v2), some (.int v3), some (.int v4), none]) (st' := [.int 0]) (w' := W_X5 u) [] 1 (by with_unfolding_all rfl) trivial ?_
          exact ev_to2 (t_X5_ends_b193 F (s_X5_ends_l164 F v1 v2 n) u v1 v2 v4 0 _ hk164 hR) ⟨rfl, rfl, rfl, rfl, trivial⟩ rfl rfl
        · replace hR := lf_t h4 hR
          refine ev_run (cs := []) (pc' := 193) (L' := [some (.ref 0), some (.int v1), some (.int v2), some (.int v3), some (.int v4), none]) (st' := [.int 1]) (w' := W_X5 u) [] 2 (by with_unfolding_all rfl) trivial ?_
          exact ev_to2 (t_X5_ends_b193 F (s_X5_ends_l164 F v1 v2 n) u v1 v2 v4 1 _ hk164 hR) ⟨rfl, rfl, rfl, rfl, trivial⟩ rfl rfl

def s_X5_ends_l94 (F : Nat) (v1 : Int32) (v2 : Int32) : Nat → S_X5 → Int32 → Option S_X5
  | 0 => fun _ _ => none
  | n + 1 => fun u v3 => if 4 ≤ v3 then (s_X5_ends_l164 F v1 v2 F u 0 0) else ((s_X5_slotOf F u v1 v3).bind fun y1 => (if lf_ix ((257 + (4 * v1)) + v3) 20377 then (if y1 = (-1) then (s_X5_ends_l94 F v1 v2 n (m_X5_state (upd (a_X5_state u) (((257 + (4 * v1)) + v3).toNatClampNeg) (-1)) u) (v3 + 1)) else (if y1 = v1 then (s_X5_ends_l94 F v1 v2 n (m_X5_state (upd (a_X5_state u) (((257 + (4 * v1)) + v3).toNatClampNeg) (-1)) u) (v3 + 1)) else ((s_X5_endsToo F (m_X5_state (upd (a_X5_state u) (((257 + (4 * v1)) + v3).toNatClampNeg) (-1)) u) y1 v2).bind fun y2 => (if y2 then (s_X5_ends_l94 F v1 v2 n (m_X5_state (upd (a_X5_state u) (((257 + (4 * v1)) + v3).toNatClampNeg) (-1)) u) (v3 + 1)) else ((s_X5_addReport F (m_X5_state (upd (a_X5_state u) (((257 + (4 * v1)) + v3).toNatClampNeg) (-1)) u) y1 (-1) 0).bind fun y3 => (s_X5_ends_l94 F v1 v2 n y3.2 (v3 + 1))))))) else none))
theorem e_X5_ends_l94 (F : Nat) (v1 : Int32) (v2 : Int32) (n : Nat) (u : S_X5) (v3 : Int32) : s_X5_ends_l94 F v1 v2 (n + 1) u v3 = if 4 ≤ v3 then (s_X5_ends_l164 F v1 v2 F u 0 0) else ((s_X5_slotOf F u v1 v3).bind fun y1 => (if lf_ix ((257 + (4 * v1)) + v3) 20377 then (if y1 = (-1) then (s_X5_ends_l94 F v1 v2 n (m_X5_state (upd (a_X5_state u) (((257 + (4 * v1)) + v3).toNatClampNeg) (-1)) u) (v3 + 1)) else (if y1 = v1 then (s_X5_ends_l94 F v1 v2 n (m_X5_state (upd (a_X5_state u) (((257 + (4 * v1)) + v3).toNatClampNeg) (-1)) u) (v3 + 1)) else ((s_X5_endsToo F (m_X5_state (upd (a_X5_state u) (((257 + (4 * v1)) + v3).toNatClampNeg) (-1)) u) y1 v2).bind fun y2 => (if y2 then (s_X5_ends_l94 F v1 v2 n (m_X5_state (upd (a_X5_state u) (((257 + (4 * v1)) + v3).toNatClampNeg) (-1)) u) (v3 + 1)) else ((s_X5_addReport F (m_X5_state (upd (a_X5_state u) (((257 + (4 * v1)) + v3).toNatClampNeg) (-1)) u) y1 (-1) 0).bind fun y3 => (s_X5_ends_l94 F v1 v2 n y3.2 (v3 + 1))))))) else none)) := rfl
set_option maxHeartbeats 4000000 in
set_option maxRecDepth 20000 in
theorem t_X5_ends_l94 (F : Nat) (v1 : Int32) (v2 : Int32) (x : S_X5)  : ∀ (n : Nat) (u : S_X5) (v3 : Int32), s_X5_ends_l94 F v1 v2 n u v3 = some x → ev_V mm_X5_ends none (ev_XR mm_X5_ends (fun r w => r = none ∧ w = W_X5 x)) 94 [some (.ref 0), some (.int v1), some (.int v2), some (.int v3), none, none] [] (W_X5 u) 0 0 := by
  intro n
  induction n with
  | zero => intro u v3 hR; cases hR
  | succ n hk94 =>
    intro u v3 hR
    unfold s_X5_ends_l94 at hR
    refine ev_run (cs := []) (pc' := 96) (L' := [some (.ref 0), some (.int v1), some (.int v2), some (.int v3), none, none]) (st' := [.int 4, .int v3]) (w' := W_X5 u) [] 2 (by with_unfolding_all rfl) trivial ?_
    refine ev_br rfl rfl (fun h1 => ?_) (fun h1 => ?_)
    · replace hR := lf_t h1 hR
      refine ev_run (cs := []) (pc' := 164) (L' := [some (.ref 0), some (.int v1), some (.int v2), some (.int 0), some (.int 0), none]) (st' := []) (w' := W_X5 u) [] 4 (by with_unfolding_all rfl) trivial ?_
      exact ev_to2 (t_X5_ends_l164 F v1 v2 _ F u 0 0 hR) ⟨rfl, rfl, rfl, rfl, rfl, trivial⟩ rfl rfl
    · replace hR := lf_f h1 hR
      refine ev_run (cs := []) (pc' := 102) (L' := [some (.ref 0), some (.int v1), some (.int v2), some (.int v3), none, none]) (st' := [.int v3, .int v1, .ref 0]) (w' := W_X5 u) [] 3 (by with_unfolding_all rfl) trivial ?_
      obtain ⟨y1, h2, hR⟩ := lf_b hR
      refine ev_callV1 0 (t_X5_slotOf F u v1 v3 _ h2) cv_X5_slotOf ml_X5_58 rfl rfl rfl (Nat.le_of_ble_eq_true rfl) (by with_unfolding_all rfl) (Nat.le_of_ble_eq_true rfl) ⟨Nat.le_of_ble_eq_true rfl, Nat.le_of_ble_eq_true rfl⟩ ⟨Nat.le_refl _, Nat.le_refl _⟩ ?_ ?_
      · rintro r w ⟨rfl, rfl⟩; rfl
      rintro r w ⟨rfl, rfl⟩
      refine ev_nx (pc' := 105) (st' := [.int y1]) (w' := W_X5 u) rfl rfl (by with_unfolding_all rfl) rfl rfl ?_
      obtain ⟨h3, hR⟩ := lf_g hR
      refine ev_run (cs := [lf_ix ((257 + (4 * v1)) + v3) 20377]) (pc' := 122) (L' := [some (.ref 0), some (.int v1), some (.int v2), some (.int v3), some (.int y1), none]) (st' := []) (w' := W_X5 (m_X5_state (upd (a_X5_state u) (((257 + (4 * v1)) + v3).toNatClampNeg) (-1)) u)) [] 12 (by with_unfolding_all rfl) (h3) ?_
      refine ev_run (cs := []) (pc' := 125) (L' := [some (.ref 0), some (.int v1), some (.int v2), some (.int v3), some (.int y1), none]) (st' := [.int (-1), .int y1]) (w' := W_X5 (m_X5_state (upd (a_X5_state u) (((257 + (4 * v1)) + v3).toNatClampNeg) (-1)) u)) [] 2 (by with_unfolding_all rfl) trivial ?_
      refine ev_br rfl rfl (fun h4 => ?_) (fun h4 => ?_)
      · replace hR := lf_t h4 hR
        refine ev_run (cs := []) (pc' := 94) (L' := [some (.ref 0), some (.int v1), some (.int v2), some (.int (v3 + 1)), some (.int y1), none]) (st' := []) (w' := W_X5 (m_X5_state (upd (a_X5_state u) (((257 + (4 * v1)) + v3).toNatClampNeg) (-1)) u)) [] 2 (by with_unfolding_all rfl) trivial ?_
        exact ev_to2 (hk94 _ _ hR) ⟨rfl, rfl, rfl, rfl, trivial⟩ rfl rfl
      · replace hR := lf_f h4 hR
        refine ev_run (cs := []) (pc' := 131) (L' := [some (.ref 0), some (.int v1), some (.int v2), some (.int v3), some (.int y1), none]) (st' := [.int v1, .int y1]) (w' := W_X5 (m_X5_state (upd (a_X5_state u) (((257 + (4 * v1)) + v3).toNatClampNeg) (-1)) u)) [] 2 (by with_unfolding_all rfl) trivial ?_
        refine ev_br rfl rfl (fun h5 => ?_) (fun h5 => ?_)
        · replace hR := lf_t h5 hR
          refine ev_run (cs := []) (pc' := 94) (L' := [some (.ref 0), some (.int v1), some (.int v2), some (.int (v3 + 1)), some (.int y1), none]) (st' := []) (w' := W_X5 (m_X5_state (upd (a_X5_state u) (((257 + (4 * v1)) + v3).toNatClampNeg) (-1)) u)) [] 2 (by with_unfolding_all rfl) trivial ?_
          exact ev_to2 (hk94 _ _ hR) ⟨rfl, rfl, rfl, rfl, trivial⟩ rfl rfl
        · replace hR := lf_f h5 hR
          refine ev_run (cs := []) (pc' := 138) (L' := [some (.ref 0), some (.int v1), some (.int v2), some (.int v3), some (.int y1), none]) (st' := [.int v2, .int y1, .ref 0]) (w' := W_X5 (m_X5_state (upd (a_X5_state u) (((257 + (4 * v1)) + v3).toNatClampNeg) (-1)) u)) [] 3 (by with_unfolding_all rfl) trivial ?_
          obtain ⟨y2, h6, hR⟩ := lf_b hR
          refine ev_callV1 0 (t_X5_endsToo F (m_X5_state (upd (a_X5_state u) (((257 + (4 * v1)) + v3).toNatClampNeg) (-1)) u) y1 v2 _ h6) cv_X5_endsToo ml_X5_75 rfl rfl rfl (Nat.le_of_ble_eq_true rfl) (by with_unfolding_all rfl) (Nat.le_of_ble_eq_true rfl) ⟨Nat.le_of_ble_eq_true rfl, Nat.le_of_ble_eq_true rfl⟩ ⟨Nat.le_refl _, Nat.le_refl _⟩ ?_ ?_
          · rintro r w ⟨rfl, rfl⟩; rfl
          rintro r w ⟨rfl, rfl⟩
          refine ev_nx (pc' := 141) (st' := [.int (ev_b y2)]) (w' := W_X5 (m_X5_state (upd (a_X5_state u) (((257 + (4 * v1)) + v3).toNatClampNeg) (-1)) u)) rfl rfl (by with_unfolding_all rfl) rfl rfl ?_
          refine ev_br rfl rfl (fun h7 => ?_) (fun h7 => ?_)
          · replace hR := lf_z1 h7 hR
            refine ev_run (cs := []) (pc' := 94) (L' := [some (.ref 0), some (.int v1), some (.int v2), some (.int (v3 + 1)), some (.int y1), none]) (st' := []) (w' := W_X5 (m_X5_state (upd (a_X5_state u) (((257 + (4 * v1)) + v3).toNatClampNeg) (-1)) u)) [] 2 (by with_unfolding_all rfl) trivial ?_
            exact ev_to2 (hk94 _ _ hR) ⟨rfl, rfl, rfl, rfl, trivial⟩ rfl rfl
          · replace hR := lf_z0 h7 hR
            refine ev_run (cs := []) (pc' := 149) (L' := [some (.ref 0), some (.int v1), some (.int v2), some (.int v3), some (.int y1), none]) (st' := [.int 0, .int (-1), .int y1, .ref 0]) (w' := W_X5 (m_X5_state (upd (a_X5_state u) (((257 + (4 * v1)) + v3).toNatClampNeg) (-1)) u)) [] 4 (by with_unfolding_all rfl) trivial ?_
            obtain ⟨y3, h8, hR⟩ := lf_b hR
            refine ev_callV1 0 (t_X5_addReport F (m_X5_state (upd (a_X5_state u) (((257 + (4 * v1)) + v3).toNatClampNeg) (-1)) u) y1 (-1) 0 _ h8) cv_X5_addReport ml_X5_79 rfl rfl rfl (Nat.le_of_ble_eq_true rfl) (by with_unfolding_all rfl) (Nat.le_of_ble_eq_true rfl) ⟨Nat.le_of_ble_eq_true rfl, Nat.le_of_ble_eq_true rfl⟩ ⟨Nat.le_refl _, Nat.le_refl _⟩ ?_ ?_
            · rintro r w ⟨rfl, rfl⟩; rfl
            rintro r w ⟨rfl, rfl⟩
            refine ev_nx (pc' := 152) (st' := [.int y3.1]) (w' := W_X5 y3.2) rfl rfl (by with_unfolding_all rfl) rfl rfl ?_
            refine ev_run (cs := []) (pc' := 94) (L' := [some (.ref 0), some (.int v1), some (.int v2), some (.int (v3 + 1)), some (.int y1), none]) (st' := []) (w' := W_X5 y3.2) [] 3 (by with_unfolding_all rfl) trivial ?_
            exact ev_to2 (hk94 _ _ hR) ⟨rfl, rfl, rfl, rfl, trivial⟩ rfl rfl

def s_X5_ends (F : Nat) (u : S_X5) (v1 : Int32) (v2 : Int32) : Option S_X5 := (s_X5_setPart F u v1 0 0).bind fun y1 => ((s_X5_setPart F y1 v1 3 0).bind fun y2 => ((s_X5_setPart F y2 v1 7 v2).bind fun y3 => ((s_X5_setPart F y3 v1 5 ((a_X5_state y3) (4 : Int32).toNatClampNeg)).bind fun y4 => ((s_X5_setPart F y4 v1 6 ((a_X5_state y4) (0 : Int32).toNatClampNeg)).bind fun y5 => (if lf_ix (353 + ((a_X5_state y5) (4 : Int32).toNatClampNeg)) 20377 then (lf_let (m_X5_state (upd (a_X5_state y5) ((353 + ((a_X5_state y5) (4 : Int32).toNatClampNeg)).toNatClampNeg) v1) y5) fun z1 => (lf_let (m_X5_state (upd (a_X5_state z1) (4 : Int32).toNatClampNeg (((a_X5_state z1) (4 : Int32).toNatClampNeg) + 1)) z1) fun z2 => (if v2 = 2 then (s_X5_ends_l94 F v1 v2 F (m_X5_state (upd (a_X5_state z2) (5 : Int32).toNatClampNeg (((a_X5_state z2) (5 : Int32).toNatClampNeg) + 1)) z2) 0) else (s_X5_ends_l94 F v1 v2 F (m_X5_state (upd (a_X5_state z2) (5 : Int32).toNatClampNeg (((a_X5_state z2) (5 : Int32).toNatClampNeg) + 0)) z2) 0)))) else none)))))
set_option maxHeartbeats 4000000 in
set_option maxRecDepth 20000 in
theorem t_X5_ends (F : Nat) (u : S_X5) (v1 : Int32) (v2 : Int32) (x : S_X5) (hR : s_X5_ends F u v1 v2 = some x) : ev_A yX5_ends mm_X5_ends none [.ref 0, .int v1, .int v2] (W_X5 u) (fun r w => r = none ∧ w = W_X5 x) := by
  unfold s_X5_ends at hR
  refine ev_start ok_X5_ends (by decide +kernel) rfl rfl (Nat.le_of_ble_eq_true rfl) ?_
  refine ev_run (cs := []) (pc' := 4) (L' := [some (.ref 0), some (.int v1), some (.int v2), none, none, none]) (st' := [.int 0, .int 0, .int v1, .ref 0]) (w' := W_X5 u) [] 4 (by with_unfolding_all rfl) trivial ?_
  obtain ⟨y1, h1, hR⟩ := lf_b hR
  refine ev_callV1 0 (t_X5_setPart F u v1 0 0 _ h1) cv_X5_setPart ml_X5_71 rfl rfl rfl (Nat.le_of_ble_eq_true rfl) (by with_unfolding_all rfl) (Nat.le_of_ble_eq_true rfl) ⟨Nat.le_of_ble_eq_true rfl, Nat.le_of_ble_eq_true rfl⟩ ⟨Nat.le_refl _, Nat.le_refl _⟩ ?_ ?_
  · rintro r w ⟨rfl, rfl⟩; rfl
  rintro r w ⟨rfl, rfl⟩
  refine ev_nx (pc' := 7) (st' := []) (w' := W_X5 y1) rfl rfl (by with_unfolding_all rfl) rfl rfl ?_
  refine ev_run (cs := []) (pc' := 11) (L' := [some (.ref 0), some (.int v1), some (.int v2), none, none, none]) (st' := [.int 0, .int 3, .int v1, .ref 0]) (w' := W_X5 y1) [] 4 (by with_unfolding_all rfl) trivial ?_
  obtain ⟨y2, h2, hR⟩ := lf_b hR
  refine ev_callV1 0 (t_X5_setPart F y1 v1 3 0 _ h2) cv_X5_setPart ml_X5_71 rfl rfl rfl (Nat.le_of_ble_eq_true rfl) (by with_unfolding_all rfl) (Nat.le_of_ble_eq_true rfl) ⟨Nat.le_of_ble_eq_true rfl, Nat.le_of_ble_eq_true rfl⟩ ⟨Nat.le_refl _, Nat.le_refl _⟩ ?_ ?_
  · rintro r w ⟨rfl, rfl⟩; rfl
  rintro r w ⟨rfl, rfl⟩
  refine ev_nx (pc' := 14) (st' := []) (w' := W_X5 y2) rfl rfl (by with_unfolding_all rfl) rfl rfl ?_
  refine ev_run (cs := []) (pc' := 19) (L' := [some (.ref 0), some (.int v1), some (.int v2), none, none, none]) (st' := [.int v2, .int 7, .int v1, .ref 0]) (w' := W_X5 y2) [] 4 (by with_unfolding_all rfl) trivial ?_
  obtain ⟨y3, h3, hR⟩ := lf_b hR
  refine ev_callV1 0 (t_X5_setPart F y2 v1 7 v2 _ h3) cv_X5_setPart ml_X5_71 rfl rfl rfl (Nat.le_of_ble_eq_true rfl) (by with_unfolding_all rfl) (Nat.le_of_ble_eq_true rfl) ⟨Nat.le_of_ble_eq_true rfl, Nat.le_of_ble_eq_true rfl⟩ ⟨Nat.le_refl _, Nat.le_refl _⟩ ?_ ?_
  · rintro r w ⟨rfl, rfl⟩; rfl
  rintro r w ⟨rfl, rfl⟩
  refine ev_nx (pc' := 22) (st' := []) (w' := W_X5 y3) rfl rfl (by with_unfolding_all rfl) rfl rfl ?_
  refine ev_run (cs := [lf_ix 4 20377]) (pc' := 31) (L' := [some (.ref 0), some (.int v1), some (.int v2), none, none, none]) (st' := [.int ((a_X5_state y3) (4 : Int32).toNatClampNeg), .int 5, .int v1, .ref 0]) (w' := W_X5 y3) [] 7 (by with_unfolding_all rfl) (by show ¬ _; decide) ?_
  obtain ⟨y4, h4, hR⟩ := lf_b hR
  refine ev_callV1 0 (t_X5_setPart F y3 v1 5 ((a_X5_state y3) (4 : Int32).toNatClampNeg) _ h4) cv_X5_setPart ml_X5_71 rfl rfl rfl (Nat.le_of_ble_eq_true rfl) (by with_unfolding_all rfl) (Nat.le_of_ble_eq_true rfl) ⟨Nat.le_of_ble_eq_true rfl, Nat.le_of_ble_eq_true rfl⟩ ⟨Nat.le_refl _, Nat.le_refl _⟩ ?_ ?_
  · rintro r w ⟨rfl, rfl⟩; rfl
  rintro r w ⟨rfl, rfl⟩
  refine ev_nx (pc' := 34) (st' := []) (w' := W_X5 y4) rfl rfl (by with_unfolding_all rfl) rfl rfl ?_
  refine ev_run (cs := [lf_ix 0 20377]) (pc' := 44) (L' := [some (.ref 0), some (.int v1), some (.int v2), none, none, none]) (st' := [.int ((a_X5_state y4) (0 : Int32).toNatClampNeg), .int 6, .int v1, .ref 0]) (w' := W_X5 y4) [] 7 (by with_unfolding_all rfl) (by show ¬ _; decide) ?_
  obtain ⟨y5, h5, hR⟩ := lf_b hR
  refine ev_callV1 0 (t_X5_setPart F y4 v1 6 ((a_X5_state y4) (0 : Int32).toNatClampNeg) _ h5) cv_X5_setPart ml_X5_71 rfl rfl rfl (Nat.le_of_ble_eq_true rfl) (by with_unfolding_all rfl) (Nat.le_of_ble_eq_true rfl) ⟨Nat.le_of_ble_eq_true rfl, Nat.le_of_ble_eq_true rfl⟩ ⟨Nat.le_refl _, Nat.le_refl _⟩ ?_ ?_
  · rintro r w ⟨rfl, rfl⟩; rfl
  rintro r w ⟨rfl, rfl⟩
  refine ev_nx (pc' := 47) (st' := []) (w' := W_X5 y5) rfl rfl (by with_unfolding_all rfl) rfl rfl ?_
  obtain ⟨h6, hR⟩ := lf_g hR
  refine ev_run (cs := [lf_ix 4 20377, lf_ix (353 + ((a_X5_state y5) (4 : Int32).toNatClampNeg)) 20377]) (pc' := 67) (L' := [some (.ref 0), some (.int v1), some (.int v2), none, none, none]) (st' := [.ref 1]) (w' := W_X5 (m_X5_state (upd (a_X5_state y5) ((353 + ((a_X5_state y5) (4 : Int32).toNatClampNeg)).toNatClampNeg) v1) y5)) [] 12 (by with_unfolding_all rfl) ⟨by show ¬ _; decide, h6⟩ ?_
  refine ev_run (cs := []) (pc' := 69) (L' := [some (.ref 0), some (.int v1), some (.int v2), none, none, none]) (st' := [.int 4, .ref 1, .int 4, .ref 1]) (w' := W_X5 (m_X5_state (upd (a_X5_state y5) ((353 + ((a_X5_state y5) (4 : Int32).toNatClampNeg)).toNatClampNeg) v1) y5)) [] 2 (by with_unfolding_all rfl) trivial ?_
  obtain ⟨z1, hz1, hR⟩ := lf_l hR
  refine ev_nx (pc' := 69) (st' := [.int 4, .ref 1, .int 4, .ref 1]) (w' := W_X5 z1) rfl rfl (congrArg (fun z => W_X5 z) hz1.symm) rfl rfl ?_
  refine ev_run (cs := [lf_ix 4 20377, lf_ix 4 20377]) (pc' := 79) (L' := [some (.ref 0), some (.int v1), some (.int v2), none, none, none]) (st' := [.int 5, .ref 1, .int 5, .ref 1]) (w' := W_X5 (m_X5_state (upd (a_X5_state z1) (4 : Int32).toNatClampNeg (((a_X5_state z1) (4 : Int32).toNatClampNeg) + 1)) z1)) [] 8 (by with_unfolding_all rfl) ⟨by show ¬ _; decide, by show ¬ _; decide⟩ ?_
  obtain ⟨z2, hz2, hR⟩ := lf_l hR
  refine ev_nx (pc' := 79) (st' := [.int 5, .ref 1, .int 5, .ref 1]) (w' := W_X5 z2) rfl rfl (congrArg (fun z => W_X5 z) hz2.symm) rfl rfl ?_
  refine ev_run (cs := [lf_ix 5 20377]) (pc' := 82) (L' := [some (.ref 0), some (.int v1), some (.int v2), none, none, none]) (st' := [.int 2, .int v2, .int ((a_X5_state z2) (5 : Int32).toNatClampNeg), .int 5, .ref 1]) (w' := W_X5 z2) [] 3 (by with_unfolding_all rfl) (by show ¬ _; decide) ?_
  refine ev_br rfl rfl (fun h7 => ?_) (fun h7 => ?_)
  · replace hR := lf_f h7 hR
    refine ev_run (cs := [lf_ix 5 20377]) (pc' := 94) (L' := [some (.ref 0), some (.int v1), some (.int v2), some (.int 0), none, none]) (st' := []) (w' := W_X5 (m_X5_state (upd (a_X5_state z2) (5 : Int32).toNatClampNeg (((a_X5_state z2) (5 : Int32).toNatClampNeg) + 0)) z2)) [] 5 (by with_unfolding_all rfl) (by show ¬ _; decide) ?_
    exact ev_to2 (t_X5_ends_l94 F v1 v2 _ F (m_X5_state (upd (a_X5_state z2) (5 : Int32).toNatClampNeg (((a_X5_state z2) (5 : Int32).toNatClampNeg) + 0)) z2) 0 hR) ⟨rfl, rfl, rfl, rfl, trivial⟩ rfl rfl
  · replace hR := lf_t h7 hR
    refine ev_run (cs := [lf_ix 5 20377]) (pc' := 94) (L' := [some (.ref 0), some (.int v1), some (.int v2), some (.int 0), none, none]) (st' := []) (w' := W_X5 (m_X5_state (upd (a_X5_state z2) (5 : Int32).toNatClampNeg (((a_X5_state z2) (5 : Int32).toNatClampNeg) + 1)) z2)) [] 6 (by with_unfolding_all rfl) (by show ¬ _; decide) ?_
    exact ev_to2 (t_X5_ends_l94 F v1 v2 _ F (m_X5_state (upd (a_X5_state z2) (5 : Int32).toNatClampNeg (((a_X5_state z2) (5 : Int32).toNatClampNeg) + 1)) z2) 0 hR) ⟨rfl, rfl, rfl, rfl, trivial⟩ rfl rfl

def s_X5_hears_b96 (F : Nat) (u : S_X5) (v2 : Int32) : Option S_X5 := (s_X5_ends F u v2 1).bind fun y1 => (some (y1))
set_option maxHeartbeats 4000000 in
set_option maxRecDepth 20000 in
theorem t_X5_hears_b96 (F : Nat) (u : S_X5) (v2 : Int32) (x : S_X5)  (hR : s_X5_hears_b96 F u v2 = some x) : ev_V mm_X5_hears none (ev_XR mm_X5_hears (fun r w => r = none ∧ w = W_X5 x)) 96 [some (.ref 0), none, some (.int v2), none, none] [] (W_X5 u) 0 0 := by
  unfold s_X5_hears_b96 at hR
  refine ev_run (cs := []) (pc' := 99) (L' := [some (.ref 0), none, some (.int v2), none, none]) (st' := [.int 1, .int v2, .ref 0]) (w' := W_X5 u) [] 3 (by with_unfolding_all rfl) trivial ?_
  obtain ⟨y1, h1, hR⟩ := lf_b hR
  refine ev_callV1 0 (t_X5_ends F u v2 1 _ h1) cv_X5_ends ml_X5_94 rfl rfl rfl (Nat.le_of_ble_eq_true rfl) (by with_unfolding_all rfl) (Nat.le_of_ble_eq_true rfl) ⟨Nat.le_of_ble_eq_true rfl, Nat.le_of_ble_eq_true rfl⟩ ⟨Nat.le_refl _, Nat.le_refl _⟩ ?_ ?_
  · rintro r w ⟨rfl, rfl⟩; rfl
  rintro r w ⟨rfl, rfl⟩
  refine ev_nx (pc' := 102) (st' := []) (w' := W_X5 y1) rfl rfl (by with_unfolding_all rfl) rfl rfl ?_
  refine ev_run (cs := []) (pc' := 124) (L' := [some (.ref 0), none, some (.int v2), none, none]) (st' := []) (w' := W_X5 y1) [] 1 (by with_unfolding_all rfl) trivial ?_
  cases hR
  exact ev_exit ⟨_, _, rfl, ⟨rfl, rfl⟩, ⟨rfl, rfl⟩, Nat.le_refl _, Nat.le_refl _⟩

def s_X5_hears (F : Nat) (u : S_X5) (v1 : Int32) : Option S_X5 := (s_X5_reportPart F u v1 1).bind fun y1 => ((s_X5_reportPart F u v1 2).bind fun y2 => ((s_X5_dropReport F u v1).bind fun y3 => ((s_X5_lives F y3 y1).bind fun y4 => (if y4 then ((s_X5_part F y3 y1 2).bind fun y5 => ((s_X5_setPart F y3 y1 2 (y5 + y2)).bind fun y6 => (if y2 ≤ 0 then ((s_X5_part F y6 y1 2).bind fun y7 => (if y7 ≤ 0 then ((s_X5_underWay F y6 y1).bind fun y8 => (if y8 = 0 then ((s_X5_truth F y6 y1).bind fun y9 => (if ((a_X5_state y6) (11 : Int32).toNatClampNeg) = 0 then (s_X5_hears_b96 F y6 y1) else (if y9 = 0 then (s_X5_hears_b96 F y6 y1) else ((s_X5_setPart F y6 y1 2 y9).bind fun y10 => (some (m_X5_state (upd (a_X5_state y10) (7 : Int32).toNatClampNeg (((a_X5_state y10) (7 : Int32).toNatClampNeg) + 1)) y10)))))) else (some (y6)))) else ((s_X5_setPart F y6 y1 3 1).bind fun y11 => (some (y11))))) else (some (y6))))) else (some (y3))))))
set_option maxHeartbeats 4000000 in
set_option maxRecDepth 20000 in
theorem t_X5_hears (F : Nat) (u : S_X5) (v1 : Int32) (x : S_X5) (hR : s_X5_hears F u v1 = some x) : ev_A yX5_hears mm_X5_hears none [.ref 0, .int v1] (W_X5 u) (fun r w => r = none ∧ w = W_X5 x) := by
  unfold s_X5_hears at hR
  refine ev_start ok_X5_hears (by decide +kernel) rfl rfl (Nat.le_of_ble_eq_true rfl) ?_
  refine ev_run (cs := []) (pc' := 3) (L' := [some (.ref 0), some (.int v1), none, none, none]) (st' := [.int 1, .int v1, .ref 0]) (w' := W_X5 u) [] 3 (by with_unfolding_all rfl) trivial ?_
  obtain ⟨y1, h1, hR⟩ := lf_b hR
  refine ev_callV1 0 (t_X5_reportPart F u v1 1 _ h1) cv_X5_reportPart ml_X5_61 rfl rfl rfl (Nat.le_of_ble_eq_true rfl) (by with_unfolding_all rfl) (Nat.le_of_ble_eq_true rfl) ⟨Nat.le_of_ble_eq_true rfl, Nat.le_of_ble_eq_true rfl⟩ ⟨Nat.le_refl _, Nat.le_refl _⟩ ?_ ?_
  · rintro r w ⟨rfl, rfl⟩; rfl
  rintro r w ⟨rfl, rfl⟩
  refine ev_nx (pc' := 6) (st' := [.int y1]) (w' := W_X5 u) rfl rfl (by with_unfolding_all rfl) rfl rfl ?_
  refine ev_run (cs := []) (pc' := 10) (L' := [some (.ref 0), some (.int v1), some (.int y1), none, none]) (st' := [.int 2, .int v1, .ref 0]) (w' := W_X5 u) [] 4 (by with_unfolding_all rfl) trivial ?_
  obtain ⟨y2, h2, hR⟩ := lf_b hR
  refine ev_callV1 0 (t_X5_reportPart F u v1 2 _ h2) cv_X5_reportPart ml_X5_61 rfl rfl rfl (Nat.le_of_ble_eq_true rfl) (by with_unfolding_all rfl) (Nat.le_of_ble_eq_true rfl) ⟨Nat.le_of_ble_eq_true rfl, Nat.le_of_ble_eq_true rfl⟩ ⟨Nat.le_refl _, Nat.le_refl _⟩ ?_ ?_
  · rintro r w ⟨rfl, rfl⟩; rfl
  rintro r w ⟨rfl, rfl⟩
  refine ev_nx (pc' := 13) (st' := [.int y2]) (w' := W_X5 u) rfl rfl (by with_unfolding_all rfl) rfl rfl ?_
  refine ev_run (cs := []) (pc' := 16) (L' := [some (.ref 0), some (.int v1), some (.int y1), some (.int y2), none]) (st' := [.int v1, .ref 0]) (w' := W_X5 u) [] 3 (by with_unfolding_all rfl) trivial ?_
  obtain ⟨y3, h3, hR⟩ := lf_b hR
  refine ev_callV1 0 (t_X5_dropReport F u v1 _ h3) cv_X5_dropReport ml_X5_83 rfl rfl rfl (Nat.le_of_ble_eq_true rfl) (by with_unfolding_all rfl) (Nat.le_of_ble_eq_true rfl) ⟨Nat.le_of_ble_eq_true rfl, Nat.le_of_ble_eq_true rfl⟩ ⟨Nat.le_refl _, Nat.le_refl _⟩ ?_ ?_
  · rintro r w ⟨rfl, rfl⟩; rfl
  rintro r w ⟨rfl, rfl⟩
  refine ev_nx (pc' := 19) (st' := []) (w' := W_X5 y3) rfl rfl (by with_unfolding_all rfl) rfl rfl ?_
  refine ev_run (cs := []) (pc' := 21) (L' := [some (.ref 0), some (.int v1), some (.int y1), some (.int y2), none]) (st' := [.int y1, .ref 0]) (w' := W_X5 y3) [] 2 (by with_unfolding_all rfl) trivial ?_
  obtain ⟨y4, h4, hR⟩ := lf_b hR
  refine ev_callV1 0 (t_X5_lives F y3 y1 _ h4) cv_X5_lives ml_X5_54 rfl rfl rfl (Nat.le_of_ble_eq_true rfl) (by with_unfolding_all rfl) (Nat.le_of_ble_eq_true rfl) ⟨Nat.le_of_ble_eq_true rfl, Nat.le_of_ble_eq_true rfl⟩ ⟨Nat.le_refl _, Nat.le_refl _⟩ ?_ ?_
  · rintro r w ⟨rfl, rfl⟩; rfl
  rintro r w ⟨rfl, rfl⟩
  refine ev_nx (pc' := 24) (st' := [.int (ev_b y4)]) (w' := W_X5 y3) rfl rfl (by with_unfolding_all rfl) rfl rfl ?_
  refine ev_br rfl rfl (fun h5 => ?_) (fun h5 => ?_)
  · replace hR := lf_z1 h5 hR
    refine ev_run (cs := []) (pc' := 34) (L' := [some (.ref 0), some (.int v1), some (.int y1), some (.int y2), none]) (st' := [.int 2, .int y1, .ref 0, .int 2, .int y1, .ref 0]) (w' := W_X5 y3) [] 6 (by with_unfolding_all rfl) trivial ?_
    obtain ⟨y5, h6, hR⟩ := lf_b hR
    refine ev_callV1 0 (t_X5_part F y3 y1 2 _ h6) cv_X5_part ml_X5_50 rfl rfl rfl (Nat.le_of_ble_eq_true rfl) (by with_unfolding_all rfl) (Nat.le_of_ble_eq_true rfl) ⟨Nat.le_of_ble_eq_true rfl, Nat.le_of_ble_eq_true rfl⟩ ⟨Nat.le_refl _, Nat.le_refl _⟩ ?_ ?_
    · rintro r w ⟨rfl, rfl⟩; rfl
    rintro r w ⟨rfl, rfl⟩
    refine ev_nx (pc' := 37) (st' := [.int y5, .int 2, .int y1, .ref 0]) (w' := W_X5 y3) rfl rfl (by with_unfolding_all rfl) rfl rfl ?_
    refine ev_run (cs := []) (pc' := 39) (L' := [some (.ref 0), some (.int v1), some (.int y1), some (.int y2), none]) (st' := [.int (y5 + y2), .int 2, .int y1, .ref 0]) (w' := W_X5 y3) [] 2 (by with_unfolding_all rfl) trivial ?_
    obtain ⟨y6, h7, hR⟩ := lf_b hR
    refine ev_callV1 0 (t_X5_setPart F y3 y1 2 (y5 + y2) _ h7) cv_X5_setPart ml_X5_71 rfl rfl rfl (Nat.le_of_ble_eq_true rfl) (by with_unfolding_all rfl) (Nat.le_of_ble_eq_true rfl) ⟨Nat.le_of_ble_eq_true rfl, Nat.le_of_ble_eq_true rfl⟩ ⟨Nat.le_refl _, Nat.le_refl _⟩ ?_ ?_
    · rintro r w ⟨rfl, rfl⟩; rfl
    rintro r w ⟨rfl, rfl⟩
    refine ev_nx (pc' := 42) (st' := []) (w' := W_X5 y6) rfl rfl (by with_unfolding_all rfl) rfl rfl ?_
    refine ev_run (cs := []) (pc' := 43) (L' := [some (.ref 0), some (.int v1), some (.int y1), some (.int y2), none]) (st' := [.int y2]) (w' := W_X5 y6) [] 1 (by with_unfolding_all rfl) trivial ?_
    refine ev_br rfl rfl (fun h8 => ?_) (fun h8 => ?_)
    · replace hR := lf_t h8 hR
      refine ev_run (cs := []) (pc' := 50) (L' := [some (.ref 0), some (.int v1), some (.int y1), some (.int y2), none]) (st' := [.int 2, .int y1, .ref 0]) (w' := W_X5 y6) [] 3 (by with_unfolding_all rfl) trivial ?_
      obtain ⟨y7, h9, hR⟩ := lf_b hR
      refine ev_callV1 0 (t_X5_part F y6 y1 2 _ h9) cv_X5_part ml_X5_50 rfl rfl rfl (Nat.le_of_ble_eq_true rfl) (by with_unfolding_all rfl) (Nat.le_of_ble_eq_true rfl) ⟨Nat.le_of_ble_eq_true rfl, Nat.le_of_ble_eq_true rfl⟩ ⟨Nat.le_refl _, Nat.le_refl _⟩ ?_ ?_
      · rintro r w ⟨rfl, rfl⟩; rfl
      rintro r w ⟨rfl, rfl⟩
      refine ev_nx (pc' := 53) (st' := [.int y7]) (w' := W_X5 y6) rfl rfl (by with_unfolding_all rfl) rfl rfl ?_
      refine ev_br rfl rfl (fun h10 => ?_) (fun h10 => ?_)
      · replace hR := lf_t h10 hR
        refine ev_run (cs := []) (pc' := 68) (L' := [some (.ref 0), some (.int v1), some (.int y1), some (.int y2), none]) (st' := [.int y1, .ref 0]) (w' := W_X5 y6) [] 2 (by with_unfolding_all rfl) trivial ?_
        obtain ⟨y8, h11, hR⟩ := lf_b hR
        refine ev_callV1 0 (t_X5_underWay F y6 y1 _ h11) cv_X5_underWay ml_X5_87 rfl rfl rfl (Nat.le_of_ble_eq_true rfl) (by with_unfolding_all rfl) (Nat.le_of_ble_eq_true rfl) ⟨Nat.le_of_ble_eq_true rfl, Nat.le_of_ble_eq_true rfl⟩ ⟨Nat.le_refl _, Nat.le_refl _⟩ ?_ ?_
        · rintro r w ⟨rfl, rfl⟩; rfl
        rintro r w ⟨rfl, rfl⟩
        refine ev_nx (pc' := 71) (st' := [.int y8]) (w' := W_X5 y6) rfl rfl (by with_unfolding_all rfl) rfl rfl ?_
        refine ev_br rfl rfl (fun h12 => ?_) (fun h12 => ?_)
        · replace hR := lf_f h12 hR
          cases hR
          exact ev_exit ⟨_, _, rfl, ⟨rfl, rfl⟩, ⟨rfl, rfl⟩, Nat.le_refl _, Nat.le_refl _⟩
        · replace hR := lf_t h12 hR
          refine ev_run (cs := []) (pc' := 76) (L' := [some (.ref 0), some (.int v1), some (.int y1), some (.int y2), none]) (st' := [.int y1, .ref 0]) (w' := W_X5 y6) [] 2 (by with_unfolding_all rfl) trivial ?_
          obtain ⟨y9, h13, hR⟩ := lf_b hR
          refine ev_callV1 0 (t_X5_truth F y6 y1 _ h13) cv_X5_truth ml_X5_91 rfl rfl rfl (Nat.le_of_ble_eq_true rfl) (by with_unfolding_all rfl) (Nat.le_of_ble_eq_true rfl) ⟨Nat.le_of_ble_eq_true rfl, Nat.le_of_ble_eq_true rfl⟩ ⟨Nat.le_refl _, Nat.le_refl _⟩ ?_ ?_
          · rintro r w ⟨rfl, rfl⟩; rfl
          rintro r w ⟨rfl, rfl⟩
          refine ev_nx (pc' := 79) (st' := [.int y9]) (w' := W_X5 y6) rfl rfl (by with_unfolding_all rfl) rfl rfl ?_
          refine ev_run (cs := [lf_ix 11 20377]) (pc' := 88) (L' := [some (.ref 0), some (.int v1), some (.int y1), some (.int y2), some (.int y9)]) (st' := [.int ((a_X5_state y6) (11 : Int32).toNatClampNeg)]) (w' := W_X5 y6) [] 5 (by with_unfolding_all rfl) (by show ¬ _; decide) ?_
          refine ev_br rfl rfl (fun h14 => ?_) (fun h14 => ?_)
          · replace hR := lf_t h14 hR
            exact ev_to2 (t_X5_hears_b96 F y6 y1 _ hR) ⟨rfl, rfl, trivial⟩ rfl rfl
          · replace hR := lf_f h14 hR
            refine ev_run (cs := []) (pc' := 93) (L' := [some (.ref 0), some (.int v1), some (.int y1), some (.int y2), some (.int y9)]) (st' := [.int y9]) (w' := W_X5 y6) [] 1 (by with_unfolding_all rfl) trivial ?_
            refine ev_br rfl rfl (fun h15 => ?_) (fun h15 => ?_)
            · replace hR := lf_f h15 hR
              refine ev_run (cs := []) (pc' := 110) (L' := [some (.ref 0), some (.int v1), some (.int y1), some (.int y2), some (.int y9)]) (st' := [.int y9, .int 2, .int y1, .ref 0]) (w' := W_X5 y6) [] 4 (by with_unfolding_all rfl) trivial ?_
              obtain ⟨y10, h16, hR⟩ := lf_b hR
              refine ev_callV1 0 (t_X5_setPart F y6 y1 2 y9 _ h16) cv_X5_setPart ml_X5_71 rfl rfl rfl (Nat.le_of_ble_eq_true rfl) (by with_unfolding_all rfl) (Nat.le_of_ble_eq_true rfl) ⟨Nat.le_of_ble_eq_true rfl, Nat.le_of_ble_eq_true rfl⟩ ⟨Nat.le_refl _, Nat.le_refl _⟩ ?_ ?_
              · rintro r w ⟨rfl, rfl⟩; rfl
              rintro r w ⟨rfl, rfl⟩
              refine ev_nx (pc' := 113) (st' := []) (w' := W_X5 y10) rfl rfl (by with_unfolding_all rfl) rfl rfl ?_
              refine ev_run (cs := [lf_ix 7 20377, lf_ix 7 20377]) (pc' := 124) (L' := [some (.ref 0), some (.int v1), some (.int y1), some (.int y2), some (.int y9)]) (st' := []) (w' := W_X5 (m_X5_state (upd (a_X5_state y10) (7 : Int32).toNatClampNeg (((a_X5_state y10) (7 : Int32).toNatClampNeg) + 1)) y10)) [] 8 (by with_unfolding_all rfl) ⟨by show ¬ _; decide, by show ¬ _; decide⟩ ?_
              cases hR
              exact ev_exit ⟨_, _, rfl, ⟨rfl, rfl⟩, ⟨rfl, rfl⟩, Nat.le_refl _, Nat.le_refl _⟩
            · replace hR := lf_t h15 hR
              exact ev_to2 (t_X5_hears_b96 F y6 y1 _ hR) ⟨rfl, rfl, trivial⟩ rfl rfl
      · replace hR := lf_f h10 hR
        refine ev_run (cs := []) (pc' := 60) (L' := [some (.ref 0), some (.int v1), some (.int y1), some (.int y2), none]) (st' := [.int 1, .int 3, .int y1, .ref 0]) (w' := W_X5 y6) [] 4 (by with_unfolding_all rfl) trivial ?_
        obtain ⟨y11, h17, hR⟩ := lf_b hR
        refine ev_callV1 0 (t_X5_setPart F y6 y1 3 1 _ h17) cv_X5_setPart ml_X5_71 rfl rfl rfl (Nat.le_of_ble_eq_true rfl) (by with_unfolding_all rfl) (Nat.le_of_ble_eq_true rfl) ⟨Nat.le_of_ble_eq_true rfl, Nat.le_of_ble_eq_true rfl⟩ ⟨Nat.le_refl _, Nat.le_refl _⟩ ?_ ?_
        · rintro r w ⟨rfl, rfl⟩; rfl
        rintro r w ⟨rfl, rfl⟩
        refine ev_nx (pc' := 63) (st' := []) (w' := W_X5 y11) rfl rfl (by with_unfolding_all rfl) rfl rfl ?_
        refine ev_run (cs := []) (pc' := 124) (L' := [some (.ref 0), some (.int v1), some (.int y1), some (.int y2), none]) (st' := []) (w' := W_X5 y11) [] 1 (by with_unfolding_all rfl) trivial ?_
        cases hR
        exact ev_exit ⟨_, _, rfl, ⟨rfl, rfl⟩, ⟨rfl, rfl⟩, Nat.le_refl _, Nat.le_refl _⟩
    · replace hR := lf_f h8 hR
      cases hR
      exact ev_exit ⟨_, _, rfl, ⟨rfl, rfl⟩, ⟨rfl, rfl⟩, Nat.le_refl _, Nat.le_refl _⟩
  · replace hR := lf_z0 h5 hR
    cases hR
    exact ev_exit ⟨_, _, rfl, ⟨rfl, rfl⟩, ⟨rfl, rfl⟩, Nat.le_refl _, Nat.le_refl _⟩

def s_X5_hearDue_l5 (F : Nat) : Nat → S_X5 → Int32 → Option S_X5
  | 0 => fun _ _ => none
  | n + 1 => fun u v1 => if v1 = (-1) then (some (u)) else ((s_X5_hears F u v1).bind fun y1 => ((s_X5_firstDue F y1).bind fun y2 => (s_X5_hearDue_l5 F n y1 y2)))
theorem e_X5_hearDue_l5 (F : Nat) (n : Nat) (u : S_X5) (v1 : Int32) : s_X5_hearDue_l5 F (n + 1) u v1 = if v1 = (-1) then (some (u)) else ((s_X5_hears F u v1).bind fun y1 => ((s_X5_firstDue F y1).bind fun y2 => (s_X5_hearDue_l5 F n y1 y2))) := rfl
set_option maxHeartbeats 4000000 in
set_option maxRecDepth 20000 in
theorem t_X5_hearDue_l5 (F : Nat) (x : S_X5)  : ∀ (n : Nat) (u : S_X5) (v1 : Int32), s_X5_hearDue_l5 F n u v1 = some x → ev_V mm_X5_hearDue none (ev_XR mm_X5_hearDue (fun r w => r = none ∧ w = W_X5 x)) 5 [some (.ref 0), some (.int v1)] [] (W_X5 u) 0 0 := by
  intro n
  induction n with
  | zero => intro u v1 hR; cases hR
  | succ n hk5 =>
    intro u v1 hR
    unfold s_X5_hearDue_l5 at hR
    refine ev_run (cs := []) (pc' := 7) (L' := [some (.ref 0), some (.int v1)]) (st' := [.int (-1), .int v1]) (w' := W_X5 u) [] 2 (by with_unfolding_all rfl) trivial ?_
    refine ev_br rfl rfl (fun h1 => ?_) (fun h1 => ?_)
    · replace hR := lf_t h1 hR
      cases hR
      exact ev_exit ⟨_, _, rfl, ⟨rfl, rfl⟩, ⟨rfl, rfl⟩, Nat.le_refl _, Nat.le_refl _⟩
    · replace hR := lf_f h1 hR
      refine ev_run (cs := []) (pc' := 12) (L' := [some (.ref 0), some (.int v1)]) (st' := [.int v1, .ref 0]) (w' := W_X5 u) [] 2 (by with_unfolding_all rfl) trivial ?_
      obtain ⟨y1, h2, hR⟩ := lf_b hR
      refine ev_callV1 0 (t_X5_hears F u v1 _ h2) cv_X5_hears ml_X5_102 rfl rfl rfl (Nat.le_of_ble_eq_true rfl) (by with_unfolding_all rfl) (Nat.le_of_ble_eq_true rfl) ⟨Nat.le_of_ble_eq_true rfl, Nat.le_of_ble_eq_true rfl⟩ ⟨Nat.le_refl _, Nat.le_refl _⟩ ?_ ?_
      · rintro r w ⟨rfl, rfl⟩; rfl
      rintro r w ⟨rfl, rfl⟩
      refine ev_nx (pc' := 15) (st' := []) (w' := W_X5 y1) rfl rfl (by with_unfolding_all rfl) rfl rfl ?_
      refine ev_run (cs := []) (pc' := 16) (L' := [some (.ref 0), some (.int v1)]) (st' := [.ref 0]) (w' := W_X5 y1) [] 1 (by with_unfolding_all rfl) trivial ?_
      obtain ⟨y2, h3, hR⟩ := lf_b hR
      refine ev_callV1 0 (t_X5_firstDue F y1 _ h3) cv_X5_firstDue ml_X5_98 rfl rfl rfl (Nat.le_of_ble_eq_true rfl) (by with_unfolding_all rfl) (Nat.le_of_ble_eq_true rfl) ⟨Nat.le_of_ble_eq_true rfl, Nat.le_of_ble_eq_true rfl⟩ ⟨Nat.le_refl _, Nat.le_refl _⟩ ?_ ?_
      · rintro r w ⟨rfl, rfl⟩; rfl
      rintro r w ⟨rfl, rfl⟩
      refine ev_nx (pc' := 19) (st' := [.int y2]) (w' := W_X5 y1) rfl rfl (by with_unfolding_all rfl) rfl rfl ?_
      refine ev_run (cs := []) (pc' := 5) (L' := [some (.ref 0), some (.int y2)]) (st' := []) (w' := W_X5 y1) [] 2 (by with_unfolding_all rfl) trivial ?_
      exact ev_to2 (hk5 _ _ hR) ⟨rfl, rfl, trivial⟩ rfl rfl

def s_X5_hearDue (F : Nat) (u : S_X5) : Option S_X5 := (s_X5_firstDue F u).bind fun y1 => (s_X5_hearDue_l5 F F u y1)
set_option maxHeartbeats 4000000 in
set_option maxRecDepth 20000 in
theorem t_X5_hearDue (F : Nat) (u : S_X5) (x : S_X5) (hR : s_X5_hearDue F u = some x) : ev_A yX5_hearDue mm_X5_hearDue none [.ref 0] (W_X5 u) (fun r w => r = none ∧ w = W_X5 x) := by
  unfold s_X5_hearDue at hR
  refine ev_start ok_X5_hearDue (by decide +kernel) rfl rfl (Nat.le_of_ble_eq_true rfl) ?_
  refine ev_run (cs := []) (pc' := 1) (L' := [some (.ref 0), none]) (st' := [.ref 0]) (w' := W_X5 u) [] 1 (by with_unfolding_all rfl) trivial ?_
  obtain ⟨y1, h1, hR⟩ := lf_b hR
  refine ev_callV1 0 (t_X5_firstDue F u _ h1) cv_X5_firstDue ml_X5_98 rfl rfl rfl (Nat.le_of_ble_eq_true rfl) (by with_unfolding_all rfl) (Nat.le_of_ble_eq_true rfl) ⟨Nat.le_of_ble_eq_true rfl, Nat.le_of_ble_eq_true rfl⟩ ⟨Nat.le_refl _, Nat.le_refl _⟩ ?_ ?_
  · rintro r w ⟨rfl, rfl⟩; rfl
  rintro r w ⟨rfl, rfl⟩
  refine ev_nx (pc' := 4) (st' := [.int y1]) (w' := W_X5 u) rfl rfl (by with_unfolding_all rfl) rfl rfl ?_
  refine ev_run (cs := []) (pc' := 5) (L' := [some (.ref 0), some (.int y1)]) (st' := []) (w' := W_X5 u) [] 1 (by with_unfolding_all rfl) trivial ?_
  exact ev_to2 (t_X5_hearDue_l5 F _ F u y1 hR) ⟨rfl, rfl, trivial⟩ rfl rfl

def s_X5_whyNotAdded (F : Nat) (u : S_X5) (v1 : Int32) : Option Int32 := (s_X5_within F v1 0 9).bind fun y1 => (if y1 then (if ((a_X5_state u) (1 : Int32).toNatClampNeg) = 24 then (some (2)) else (some (0))) else (some (1)))
set_option maxHeartbeats 4000000 in
set_option maxRecDepth 20000 in
theorem t_X5_whyNotAdded (F : Nat) (u : S_X5) (v1 : Int32) (x : Int32) (hR : s_X5_whyNotAdded F u v1 = some x) : ev_A yX5_whyNotAdded mm_X5_whyNotAdded none [.ref 0, .int v1] (W_X5 u) (fun r w => r = some (.int x) ∧ w = W_X5 u) := by
  unfold s_X5_whyNotAdded at hR
  refine ev_start ok_X5_whyNotAdded (by decide +kernel) rfl rfl (Nat.le_of_ble_eq_true rfl) ?_
  refine ev_run (cs := []) (pc' := 4) (L' := [some (.ref 0), some (.int v1)]) (st' := [.int 9, .int 0, .int v1]) (w' := W_X5 u) [] 3 (by with_unfolding_all rfl) trivial ?_
  obtain ⟨y1, h1, hR⟩ := lf_b hR
  refine ev_callS1 0 (t_X5_within F v1 0 9 _ h1) cs_X5_within ml_X5_46 rfl rfl rfl (Nat.le_of_ble_eq_true rfl) (by with_unfolding_all rfl) (Nat.le_of_ble_eq_true rfl) ⟨Nat.le_of_ble_eq_true rfl, Nat.le_of_ble_eq_true rfl⟩ ⟨Nat.le_refl _, Nat.le_refl _⟩ ?_ ?_
  · rintro r w ⟨rfl, rfl⟩; rfl
  rintro r w ⟨rfl, rfl⟩
  refine ev_nx (pc' := 7) (st' := [.int (ev_b y1)]) (w' := W_X5 u) rfl rfl (by with_unfolding_all rfl) rfl rfl ?_
  refine ev_br rfl rfl (fun h2 => ?_) (fun h2 => ?_)
  · replace hR := lf_z1 h2 hR
    refine ev_run (cs := [lf_ix 1 20377]) (pc' := 22) (L' := [some (.ref 0), some (.int v1)]) (st' := [.int 24, .int ((a_X5_state u) (1 : Int32).toNatClampNeg)]) (w' := W_X5 u) [] 5 (by with_unfolding_all rfl) (by show ¬ _; decide) ?_
    refine ev_br rfl rfl (fun h3 => ?_) (fun h3 => ?_)
    · replace hR := lf_f h3 hR
      refine ev_run (cs := []) (pc' := 30) (L' := [some (.ref 0), some (.int v1)]) (st' := [.int 0]) (w' := W_X5 u) [] 1 (by with_unfolding_all rfl) trivial ?_
      cases hR
      exact ev_exit ⟨_, _, rfl, ⟨rfl, Or.inl rfl⟩, ⟨rfl, rfl⟩, Nat.le_refl _, Nat.le_refl _⟩
    · replace hR := lf_t h3 hR
      refine ev_run (cs := []) (pc' := 30) (L' := [some (.ref 0), some (.int v1)]) (st' := [.int 2]) (w' := W_X5 u) [] 2 (by with_unfolding_all rfl) trivial ?_
      cases hR
      exact ev_exit ⟨_, _, rfl, ⟨rfl, Or.inl rfl⟩, ⟨rfl, rfl⟩, Nat.le_refl _, Nat.le_refl _⟩
  · replace hR := lf_z0 h2 hR
    refine ev_run (cs := []) (pc' := 30) (L' := [some (.ref 0), some (.int v1)]) (st' := [.int 1]) (w' := W_X5 u) [] 2 (by with_unfolding_all rfl) trivial ?_
    cases hR
    exact ev_exit ⟨_, _, rfl, ⟨rfl, Or.inl rfl⟩, ⟨rfl, rfl⟩, Nat.le_refl _, Nat.le_refl _⟩

def s_X5_added_l71 (F : Nat) (v2 : Int32) : Nat → S_X5 → Int32 → Option (Int32 × S_X5)
  | 0 => fun _ _ => none
  | n + 1 => fun u v3 => if 4 ≤ v3 then (some (v2, m_X5_state (upd (a_X5_state u) (1 : Int32).toNatClampNeg (((a_X5_state u) (1 : Int32).toNatClampNeg) + 1)) u)) else (if lf_ix ((257 + (4 * v2)) + v3) 20377 then (s_X5_added_l71 F v2 n (m_X5_state (upd (a_X5_state u) (((257 + (4 * v2)) + v3).toNatClampNeg) (-1)) u) (v3 + 1)) else none)
theorem e_X5_added_l71 (F : Nat) (v2 : Int32) (n : Nat) (u : S_X5) (v3 : Int32) : s_X5_added_l71 F v2 (n + 1) u v3 = if 4 ≤ v3 then (some (v2, m_X5_state (upd (a_X5_state u) (1 : Int32).toNatClampNeg (((a_X5_state u) (1 : Int32).toNatClampNeg) + 1)) u)) else (if lf_ix ((257 + (4 * v2)) + v3) 20377 then (s_X5_added_l71 F v2 n (m_X5_state (upd (a_X5_state u) (((257 + (4 * v2)) + v3).toNatClampNeg) (-1)) u) (v3 + 1)) else none) := rfl
set_option maxHeartbeats 4000000 in
set_option maxRecDepth 20000 in
theorem t_X5_added_l71 (F : Nat) (v2 : Int32) (x : (Int32 × S_X5))  : ∀ (n : Nat) (u : S_X5) (v3 : Int32), s_X5_added_l71 F v2 n u v3 = some x → ev_V mm_X5_added none (ev_XR mm_X5_added (fun r w => r = some (.int x.1) ∧ w = W_X5 x.2)) 71 [some (.ref 0), none, some (.int v2), some (.int v3)] [] (W_X5 u) 0 0 := by
  intro n
  induction n with
  | zero => intro u v3 hR; cases hR
  | succ n hk71 =>
    intro u v3 hR
    unfold s_X5_added_l71 at hR
    refine ev_run (cs := []) (pc' := 73) (L' := [some (.ref 0), none, some (.int v2), some (.int v3)]) (st' := [.int 4, .int v3]) (w' := W_X5 u) [] 2 (by with_unfolding_all rfl) trivial ?_
    refine ev_br rfl rfl (fun h1 => ?_) (fun h1 => ?_)
    · replace hR := lf_t h1 hR
      refine ev_run (cs := [lf_ix 1 20377, lf_ix 1 20377]) (pc' := 108) (L' := [some (.ref 0), none, some (.int v2), some (.int v3)]) (st' := [.int v2]) (w' := W_X5 (m_X5_state (upd (a_X5_state u) (1 : Int32).toNatClampNeg (((a_X5_state u) (1 : Int32).toNatClampNeg) + 1)) u)) [] 9 (by with_unfolding_all rfl) ⟨by show ¬ _; decide, by show ¬ _; decide⟩ ?_
      cases hR
      exact ev_exit ⟨_, _, rfl, ⟨rfl, Or.inl rfl⟩, ⟨rfl, rfl⟩, Nat.le_refl _, Nat.le_refl _⟩
    · replace hR := lf_f h1 hR
      obtain ⟨h2, hR⟩ := lf_g hR
      refine ev_run (cs := [lf_ix ((257 + (4 * v2)) + v3) 20377]) (pc' := 94) (L' := [some (.ref 0), none, some (.int v2), some (.int (v3 + 1))]) (st' := []) (w' := W_X5 (m_X5_state (upd (a_X5_state u) (((257 + (4 * v2)) + v3).toNatClampNeg) (-1)) u)) [] 12 (by with_unfolding_all rfl) (h2) ?_
      refine ev_run (cs := []) (pc' := 71) (L' := [some (.ref 0), none, some (.int v2), some (.int (v3 + 1))]) (st' := []) (w' := W_X5 (m_X5_state (upd (a_X5_state u) (((257 + (4 * v2)) + v3).toNatClampNeg) (-1)) u)) [] 1 (by with_unfolding_all rfl) trivial ?_
      exact ev_to2 (hk71 _ _ hR) ⟨rfl, rfl, rfl, trivial⟩ rfl rfl

def s_X5_added_b28 (F : Nat) (u : S_X5) (v1 : Int32) (v2 : Int32) : Option (Int32 × S_X5) := (s_X5_setPart F u v2 0 1).bind fun y1 => ((s_X5_setPart F y1 v2 1 v1).bind fun y2 => ((s_X5_setPart F y2 v2 4 ((a_X5_state y2) (0 : Int32).toNatClampNeg)).bind fun y3 => ((s_X5_setPart F y3 v2 5 (-1)).bind fun y4 => ((s_X5_setPart F y4 v2 6 (-1)).bind fun y5 => (s_X5_added_l71 F v2 F y5 0)))))
set_option maxHeartbeats 4000000 in
set_option maxRecDepth 20000 in
theorem t_X5_added_b28 (F : Nat) (u : S_X5) (v1 : Int32) (v2 : Int32) (x : (Int32 × S_X5))  (hR : s_X5_added_b28 F u v1 v2 = some x) : ev_V mm_X5_added none (ev_XR mm_X5_added (fun r w => r = some (.int x.1) ∧ w = W_X5 x.2)) 28 [some (.ref 0), some (.int v1), some (.int v2), none] [] (W_X5 u) 0 0 := by
  unfold s_X5_added_b28 at hR
  refine ev_run (cs := []) (pc' := 32) (L' := [some (.ref 0), some (.int v1), some (.int v2), none]) (st' := [.int 1, .int 0, .int v2, .ref 0]) (w' := W_X5 u) [] 4 (by with_unfolding_all rfl) trivial ?_
  obtain ⟨y1, h1, hR⟩ := lf_b hR
  refine ev_callV1 0 (t_X5_setPart F u v2 0 1 _ h1) cv_X5_setPart ml_X5_71 rfl rfl rfl (Nat.le_of_ble_eq_true rfl) (by with_unfolding_all rfl) (Nat.le_of_ble_eq_true rfl) ⟨Nat.le_of_ble_eq_true rfl, Nat.le_of_ble_eq_true rfl⟩ ⟨Nat.le_refl _, Nat.le_refl _⟩ ?_ ?_
  · rintro r w ⟨rfl, rfl⟩; rfl
  rintro r w ⟨rfl, rfl⟩
  refine ev_nx (pc' := 35) (st' := []) (w' := W_X5 y1) rfl rfl (by with_unfolding_all rfl) rfl rfl ?_
  refine ev_run (cs := []) (pc' := 39) (L' := [some (.ref 0), some (.int v1), some (.int v2), none]) (st' := [.int v1, .int 1, .int v2, .ref 0]) (w' := W_X5 y1) [] 4 (by with_unfolding_all rfl) trivial ?_
  obtain ⟨y2, h2, hR⟩ := lf_b hR
  refine ev_callV1 0 (t_X5_setPart F y1 v2 1 v1 _ h2) cv_X5_setPart ml_X5_71 rfl rfl rfl (Nat.le_of_ble_eq_true rfl) (by with_unfolding_all rfl) (Nat.le_of_ble_eq_true rfl) ⟨Nat.le_of_ble_eq_true rfl, Nat.le_of_ble_eq_true rfl⟩ ⟨Nat.le_refl _, Nat.le_refl _⟩ ?_ ?_
  · rintro r w ⟨rfl, rfl⟩; rfl
  rintro r w ⟨rfl, rfl⟩
  refine ev_nx (pc' := 42) (st' := []) (w' := W_X5 y2) rfl rfl (by with_unfolding_all rfl) rfl rfl ?_
  refine ev_run (cs := [lf_ix 0 20377]) (pc' := 51) (L' := [some (.ref 0), some (.int v1), some (.int v2), none]) (st' := [.int ((a_X5_state y2) (0 : Int32).toNatClampNeg), .int 4, .int v2, .ref 0]) (w' := W_X5 y2) [] 7 (by with_unfolding_all rfl) (by show ¬ _; decide) ?_
  obtain ⟨y3, h3, hR⟩ := lf_b hR
  refine ev_callV1 0 (t_X5_setPart F y2 v2 4 ((a_X5_state y2) (0 : Int32).toNatClampNeg) _ h3) cv_X5_setPart ml_X5_71 rfl rfl rfl (Nat.le_of_ble_eq_true rfl) (by with_unfolding_all rfl) (Nat.le_of_ble_eq_true rfl) ⟨Nat.le_of_ble_eq_true rfl, Nat.le_of_ble_eq_true rfl⟩ ⟨Nat.le_refl _, Nat.le_refl _⟩ ?_ ?_
  · rintro r w ⟨rfl, rfl⟩; rfl
  rintro r w ⟨rfl, rfl⟩
  refine ev_nx (pc' := 54) (st' := []) (w' := W_X5 y3) rfl rfl (by with_unfolding_all rfl) rfl rfl ?_
  refine ev_run (cs := []) (pc' := 58) (L' := [some (.ref 0), some (.int v1), some (.int v2), none]) (st' := [.int (-1), .int 5, .int v2, .ref 0]) (w' := W_X5 y3) [] 4 (by with_unfolding_all rfl) trivial ?_
  obtain ⟨y4, h4, hR⟩ := lf_b hR
  refine ev_callV1 0 (t_X5_setPart F y3 v2 5 (-1) _ h4) cv_X5_setPart ml_X5_71 rfl rfl rfl (Nat.le_of_ble_eq_true rfl) (by with_unfolding_all rfl) (Nat.le_of_ble_eq_true rfl) ⟨Nat.le_of_ble_eq_true rfl, Nat.le_of_ble_eq_true rfl⟩ ⟨Nat.le_refl _, Nat.le_refl _⟩ ?_ ?_
  · rintro r w ⟨rfl, rfl⟩; rfl
  rintro r w ⟨rfl, rfl⟩
  refine ev_nx (pc' := 61) (st' := []) (w' := W_X5 y4) rfl rfl (by with_unfolding_all rfl) rfl rfl ?_
  refine ev_run (cs := []) (pc' := 66) (L' := [some (.ref 0), some (.int v1), some (.int v2), none]) (st' := [.int (-1), .int 6, .int v2, .ref 0]) (w' := W_X5 y4) [] 4 (by with_unfolding_all rfl) trivial ?_
  obtain ⟨y5, h5, hR⟩ := lf_b hR
  refine ev_callV1 0 (t_X5_setPart F y4 v2 6 (-1) _ h5) cv_X5_setPart ml_X5_71 rfl rfl rfl (Nat.le_of_ble_eq_true rfl) (by with_unfolding_all rfl) (Nat.le_of_ble_eq_true rfl) ⟨Nat.le_of_ble_eq_true rfl, Nat.le_of_ble_eq_true rfl⟩ ⟨Nat.le_refl _, Nat.le_refl _⟩ ?_ ?_
  · rintro r w ⟨rfl, rfl⟩; rfl
  rintro r w ⟨rfl, rfl⟩
  refine ev_nx (pc' := 69) (st' := []) (w' := W_X5 y5) rfl rfl (by with_unfolding_all rfl) rfl rfl ?_
  refine ev_run (cs := []) (pc' := 71) (L' := [some (.ref 0), some (.int v1), some (.int v2), some (.int 0)]) (st' := []) (w' := W_X5 y5) [] 2 (by with_unfolding_all rfl) trivial ?_
  exact ev_to2 (t_X5_added_l71 F v2 _ F y5 0 hR) ⟨rfl, rfl, rfl, trivial⟩ rfl rfl

def s_X5_added_l9 (F : Nat) (v1 : Int32) (v2 : Int32) : Nat → S_X5 → Int32 → Option (Int32 × S_X5)
  | 0 => fun _ _ => none
  | n + 1 => fun u v3 => if 10 ≤ v3 then (s_X5_added_b28 F u v1 v2) else ((s_X5_setPart F u v2 v3 0).bind fun y1 => (s_X5_added_l9 F v1 v2 n y1 (v3 + 1)))
theorem e_X5_added_l9 (F : Nat) (v1 : Int32) (v2 : Int32) (n : Nat) (u : S_X5) (v3 : Int32) : s_X5_added_l9 F v1 v2 (n + 1) u v3 = if 10 ≤ v3 then (s_X5_added_b28 F u v1 v2) else ((s_X5_setPart F u v2 v3 0).bind fun y1 => (s_X5_added_l9 F v1 v2 n y1 (v3 + 1))) := rfl
set_option maxHeartbeats 4000000 in
set_option maxRecDepth 20000 in
theorem t_X5_added_l9 (F : Nat) (v1 : Int32) (v2 : Int32) (x : (Int32 × S_X5))  : ∀ (n : Nat) (u : S_X5) (v3 : Int32), s_X5_added_l9 F v1 v2 n u v3 = some x → ev_V mm_X5_added none (ev_XR mm_X5_added (fun r w => r = some (.int x.1) ∧ w = W_X5 x.2)) 9 [some (.ref 0), some (.int v1), some (.int v2), some (.int v3)] [] (W_X5 u) 0 0 := by
  intro n
  induction n with
  | zero => intro u v3 hR; cases hR
  | succ n hk9 =>
    intro u v3 hR
    unfold s_X5_added_l9 at hR
    refine ev_run (cs := []) (pc' := 12) (L' := [some (.ref 0), some (.int v1), some (.int v2), some (.int v3)]) (st' := [.int 10, .int v3]) (w' := W_X5 u) [] 2 (by with_unfolding_all rfl) trivial ?_
    refine ev_br rfl rfl (fun h1 => ?_) (fun h1 => ?_)
    · replace hR := lf_t h1 hR
      exact ev_to2 (t_X5_added_b28 F u v1 v2 _ hR) ⟨rfl, rfl, rfl, trivial⟩ rfl rfl
    · replace hR := lf_f h1 hR
      refine ev_run (cs := []) (pc' := 19) (L' := [some (.ref 0), some (.int v1), some (.int v2), some (.int v3)]) (st' := [.int 0, .int v3, .int v2, .ref 0]) (w' := W_X5 u) [] 4 (by with_unfolding_all rfl) trivial ?_
      obtain ⟨y1, h2, hR⟩ := lf_b hR
      refine ev_callV1 0 (t_X5_setPart F u v2 v3 0 _ h2) cv_X5_setPart ml_X5_71 rfl rfl rfl (Nat.le_of_ble_eq_true rfl) (by with_unfolding_all rfl) (Nat.le_of_ble_eq_true rfl) ⟨Nat.le_of_ble_eq_true rfl, Nat.le_of_ble_eq_true rfl⟩ ⟨Nat.le_refl _, Nat.le_refl _⟩ ?_ ?_
      · rintro r w ⟨rfl, rfl⟩; rfl
      rintro r w ⟨rfl, rfl⟩
      refine ev_nx (pc' := 22) (st' := []) (w' := W_X5 y1) rfl rfl (by with_unfolding_all rfl) rfl rfl ?_
      refine ev_run (cs := []) (pc' := 9) (L' := [some (.ref 0), some (.int v1), some (.int v2), some (.int (v3 + 1))]) (st' := []) (w' := W_X5 y1) [] 2 (by with_unfolding_all rfl) trivial ?_
      exact ev_to2 (hk9 _ _ hR) ⟨rfl, rfl, rfl, rfl, trivial⟩ rfl rfl

def s_X5_added (F : Nat) (u : S_X5) (v1 : Int32) : Option (Int32 × S_X5) := s_X5_added_l9 F v1 ((a_X5_state u) (1 : Int32).toNatClampNeg) F u 0
set_option maxHeartbeats 4000000 in
set_option maxRecDepth 20000 in
theorem t_X5_added (F : Nat) (u : S_X5) (v1 : Int32) (x : (Int32 × S_X5)) (hR : s_X5_added F u v1 = some x) : ev_A yX5_added mm_X5_added none [.ref 0, .int v1] (W_X5 u) (fun r w => r = some (.int x.1) ∧ w = W_X5 x.2) := by
  unfold s_X5_added at hR
  refine ev_start ok_X5_added (by decide +kernel) rfl rfl (Nat.le_of_ble_eq_true rfl) ?_
  refine ev_run (cs := [lf_ix 1 20377]) (pc' := 9) (L' := [some (.ref 0), some (.int v1), some (.int ((a_X5_state u) (1 : Int32).toNatClampNeg)), some (.int 0)]) (st' := []) (w' := W_X5 u) [] 7 (by with_unfolding_all rfl) (by show ¬ _; decide) ?_
  exact ev_to2 (t_X5_added_l9 F v1 ((a_X5_state u) (1 : Int32).toNatClampNeg) _ F u 0 hR) ⟨rfl, rfl, rfl, rfl, trivial⟩ rfl rfl

def s_X5_add (F : Nat) (u : S_X5) (v1 : Int32) : Option (Int32 × S_X5) := (s_X5_whyNotAdded F u v1).bind fun y1 => (if y1 ≤ 0 then ((s_X5_save F (m_X5_thrown y1 u)).bind fun y2 => ((s_X5_added F y2 v1).bind fun y3 => (some (y3.1, y3.2)))) else (some (0, m_X5_thrown y1 u)))
set_option maxHeartbeats 4000000 in
set_option maxRecDepth 20000 in
theorem t_X5_add (F : Nat) (u : S_X5) (v1 : Int32) (x : (Int32 × S_X5)) (hR : s_X5_add F u v1 = some x) : ev_A yX5_add mm_X5_add none [.ref 0, .int v1] (W_X5 u) (fun r w => r = some (.int x.1) ∧ w = W_X5 x.2) := by
  unfold s_X5_add at hR
  refine ev_start ok_X5_add (by decide +kernel) rfl rfl (Nat.le_of_ble_eq_true rfl) ?_
  refine ev_run (cs := []) (pc' := 3) (L' := [some (.ref 0), some (.int v1)]) (st' := [.int v1, .ref 0, .ref 0]) (w' := W_X5 u) [] 3 (by with_unfolding_all rfl) trivial ?_
  obtain ⟨y1, h1, hR⟩ := lf_b hR
  refine ev_callV1 0 (t_X5_whyNotAdded F u v1 _ h1) cv_X5_whyNotAdded ml_X5_105 rfl rfl rfl (Nat.le_of_ble_eq_true rfl) (by with_unfolding_all rfl) (Nat.le_of_ble_eq_true rfl) ⟨Nat.le_of_ble_eq_true rfl, Nat.le_of_ble_eq_true rfl⟩ ⟨Nat.le_refl _, Nat.le_refl _⟩ ?_ ?_
  · rintro r w ⟨rfl, rfl⟩; rfl
  rintro r w ⟨rfl, rfl⟩
  refine ev_nx (pc' := 6) (st' := [.int y1, .ref 0]) (w' := W_X5 u) rfl rfl (by with_unfolding_all rfl) rfl rfl ?_
  refine ev_run (cs := []) (pc' := 13) (L' := [some (.ref 0), some (.int v1)]) (st' := [.int y1]) (w' := W_X5 (m_X5_thrown y1 u)) [] 3 (by with_unfolding_all rfl) trivial ?_
  refine ev_br rfl rfl (fun h2 => ?_) (fun h2 => ?_)
  · replace hR := lf_t h2 hR
    refine ev_run (cs := []) (pc' := 19) (L' := [some (.ref 0), some (.int v1)]) (st' := [.ref 0]) (w' := W_X5 (m_X5_thrown y1 u)) [] 1 (by with_unfolding_all rfl) trivial ?_
    obtain ⟨y2, h3, hR⟩ := lf_b hR
    refine ev_callV1 0 (t_X5_save F (m_X5_thrown y1 u) _ h3) cv_X5_save ml_X5_108 rfl rfl rfl (Nat.le_of_ble_eq_true rfl) (by with_unfolding_all rfl) (Nat.le_of_ble_eq_true rfl) ⟨Nat.le_of_ble_eq_true rfl, Nat.le_of_ble_eq_true rfl⟩ ⟨Nat.le_refl _, Nat.le_refl _⟩ ?_ ?_
    · rintro r w ⟨rfl, rfl⟩; rfl
    rintro r w ⟨rfl, rfl⟩
    refine ev_nx (pc' := 22) (st' := []) (w' := W_X5 y2) rfl rfl (by with_unfolding_all rfl) rfl rfl ?_
    refine ev_run (cs := []) (pc' := 24) (L' := [some (.ref 0), some (.int v1)]) (st' := [.int v1, .ref 0]) (w' := W_X5 y2) [] 2 (by with_unfolding_all rfl) trivial ?_
    obtain ⟨y3, h4, hR⟩ := lf_b hR
    refine ev_callV1 0 (t_X5_added F y2 v1 _ h4) cv_X5_added ml_X5_111 rfl rfl rfl (Nat.le_of_ble_eq_true rfl) (by with_unfolding_all rfl) (Nat.le_of_ble_eq_true rfl) ⟨Nat.le_of_ble_eq_true rfl, Nat.le_of_ble_eq_true rfl⟩ ⟨Nat.le_refl _, Nat.le_refl _⟩ ?_ ?_
    · rintro r w ⟨rfl, rfl⟩; rfl
    rintro r w ⟨rfl, rfl⟩
    refine ev_nx (pc' := 27) (st' := [.int y3.1]) (w' := W_X5 y3.2) rfl rfl (by with_unfolding_all rfl) rfl rfl ?_
    cases hR
    exact ev_exit ⟨_, _, rfl, ⟨rfl, Or.inl rfl⟩, ⟨rfl, rfl⟩, Nat.le_refl _, Nat.le_refl _⟩
  · replace hR := lf_f h2 hR
    refine ev_run (cs := []) (pc' := 17) (L' := [some (.ref 0), some (.int v1)]) (st' := [.int 0]) (w' := W_X5 (m_X5_thrown y1 u)) [] 1 (by with_unfolding_all rfl) trivial ?_
    cases hR
    exact ev_exit ⟨_, _, rfl, ⟨rfl, Or.inl rfl⟩, ⟨rfl, rfl⟩, Nat.le_refl _, Nat.le_refl _⟩

def s_X5_isHeld (F : Nat) (u : S_X5) (v1 : Int32) : Option Bool := if v1 = (-1) then (some (true)) else ((s_X5_isThing F u v1).bind fun y1 => (if y1 then (some (true)) else (some (false))))
set_option maxHeartbeats 4000000 in
set_option maxRecDepth 20000 in
theorem t_X5_isHeld (F : Nat) (u : S_X5) (v1 : Int32) (x : Bool) (hR : s_X5_isHeld F u v1 = some x) : ev_A yX5_isHeld mm_X5_isHeld none [.ref 0, .int v1] (W_X5 u) (fun r w => r = some (.int (ev_b x)) ∧ w = W_X5 u) := by
  unfold s_X5_isHeld at hR
  refine ev_start ok_X5_isHeld (by decide +kernel) rfl rfl (Nat.le_of_ble_eq_true rfl) ?_
  refine ev_run (cs := []) (pc' := 2) (L' := [some (.ref 0), some (.int v1)]) (st' := [.int (-1), .int v1]) (w' := W_X5 u) [] 2 (by with_unfolding_all rfl) trivial ?_
  refine ev_br rfl rfl (fun h1 => ?_) (fun h1 => ?_)
  · replace hR := lf_t h1 hR
    refine ev_run (cs := []) (pc' := 18) (L' := [some (.ref 0), some (.int v1)]) (st' := [.int 1]) (w' := W_X5 u) [] 2 (by with_unfolding_all rfl) trivial ?_
    cases hR
    exact ev_exit ⟨_, _, rfl, ⟨rfl, Or.inr ⟨rfl, rfl⟩⟩, ⟨rfl, rfl⟩, Nat.le_refl _, Nat.le_refl _⟩
  · replace hR := lf_f h1 hR
    refine ev_run (cs := []) (pc' := 7) (L' := [some (.ref 0), some (.int v1)]) (st' := [.int v1, .ref 0]) (w' := W_X5 u) [] 2 (by with_unfolding_all rfl) trivial ?_
    obtain ⟨y1, h2, hR⟩ := lf_b hR
    refine ev_callV1 0 (t_X5_isThing F u v1 _ h2) cv_X5_isThing ml_X5_114 rfl rfl rfl (Nat.le_of_ble_eq_true rfl) (by with_unfolding_all rfl) (Nat.le_of_ble_eq_true rfl) ⟨Nat.le_of_ble_eq_true rfl, Nat.le_of_ble_eq_true rfl⟩ ⟨Nat.le_refl _, Nat.le_refl _⟩ ?_ ?_
    · rintro r w ⟨rfl, rfl⟩; rfl
    rintro r w ⟨rfl, rfl⟩
    refine ev_nx (pc' := 10) (st' := [.int (ev_b y1)]) (w' := W_X5 u) rfl rfl (by with_unfolding_all rfl) rfl rfl ?_
    refine ev_br rfl rfl (fun h3 => ?_) (fun h3 => ?_)
    · replace hR := lf_z0 h3 hR
      refine ev_run (cs := []) (pc' := 18) (L' := [some (.ref 0), some (.int v1)]) (st' := [.int 0]) (w' := W_X5 u) [] 1 (by with_unfolding_all rfl) trivial ?_
      cases hR
      exact ev_exit ⟨_, _, rfl, ⟨rfl, Or.inr ⟨rfl, rfl⟩⟩, ⟨rfl, rfl⟩, Nat.le_refl _, Nat.le_refl _⟩
    · replace hR := lf_z1 h3 hR
      refine ev_run (cs := []) (pc' := 18) (L' := [some (.ref 0), some (.int v1)]) (st' := [.int 1]) (w' := W_X5 u) [] 2 (by with_unfolding_all rfl) trivial ?_
      cases hR
      exact ev_exit ⟨_, _, rfl, ⟨rfl, Or.inr ⟨rfl, rfl⟩⟩, ⟨rfl, rfl⟩, Nat.le_refl _, Nat.le_refl _⟩

def s_X5_hasEnded (F : Nat) (u : S_X5) (v1 : Int32) : Option Bool := if v1 = (-1) then (some (false)) else ((s_X5_lives F u v1).bind fun y1 => (if y1 then (some (false)) else (some (true))))
set_option maxHeartbeats 4000000 in
set_option maxRecDepth 20000 in
theorem t_X5_hasEnded (F : Nat) (u : S_X5) (v1 : Int32) (x : Bool) (hR : s_X5_hasEnded F u v1 = some x) : ev_A yX5_hasEnded mm_X5_hasEnded none [.ref 0, .int v1] (W_X5 u) (fun r w => r = some (.int (ev_b x)) ∧ w = W_X5 u) := by
  unfold s_X5_hasEnded at hR
  refine ev_start ok_X5_hasEnded (by decide +kernel) rfl rfl (Nat.le_of_ble_eq_true rfl) ?_
  refine ev_run (cs := []) (pc' := 2) (L' := [some (.ref 0), some (.int v1)]) (st' := [.int (-1), .int v1]) (w' := W_X5 u) [] 2 (by with_unfolding_all rfl) trivial ?_
  refine ev_br rfl rfl (fun h1 => ?_) (fun h1 => ?_)
  · replace hR := lf_t h1 hR
    refine ev_run (cs := []) (pc' := 18) (L' := [some (.ref 0), some (.int v1)]) (st' := [.int 0]) (w' := W_X5 u) [] 1 (by with_unfolding_all rfl) trivial ?_
    cases hR
    exact ev_exit ⟨_, _, rfl, ⟨rfl, Or.inr ⟨rfl, rfl⟩⟩, ⟨rfl, rfl⟩, Nat.le_refl _, Nat.le_refl _⟩
  · replace hR := lf_f h1 hR
    refine ev_run (cs := []) (pc' := 7) (L' := [some (.ref 0), some (.int v1)]) (st' := [.int v1, .ref 0]) (w' := W_X5 u) [] 2 (by with_unfolding_all rfl) trivial ?_
    obtain ⟨y1, h2, hR⟩ := lf_b hR
    refine ev_callV1 0 (t_X5_lives F u v1 _ h2) cv_X5_lives ml_X5_54 rfl rfl rfl (Nat.le_of_ble_eq_true rfl) (by with_unfolding_all rfl) (Nat.le_of_ble_eq_true rfl) ⟨Nat.le_of_ble_eq_true rfl, Nat.le_of_ble_eq_true rfl⟩ ⟨Nat.le_refl _, Nat.le_refl _⟩ ?_ ?_
    · rintro r w ⟨rfl, rfl⟩; rfl
    rintro r w ⟨rfl, rfl⟩
    refine ev_nx (pc' := 10) (st' := [.int (ev_b y1)]) (w' := W_X5 u) rfl rfl (by with_unfolding_all rfl) rfl rfl ?_
    refine ev_br rfl rfl (fun h3 => ?_) (fun h3 => ?_)
    · replace hR := lf_z1 h3 hR
      refine ev_run (cs := []) (pc' := 18) (L' := [some (.ref 0), some (.int v1)]) (st' := [.int 0]) (w' := W_X5 u) [] 1 (by with_unfolding_all rfl) trivial ?_
      cases hR
      exact ev_exit ⟨_, _, rfl, ⟨rfl, Or.inr ⟨rfl, rfl⟩⟩, ⟨rfl, rfl⟩, Nat.le_refl _, Nat.le_refl _⟩
    · replace hR := lf_z0 h3 hR
      refine ev_run (cs := []) (pc' := 18) (L' := [some (.ref 0), some (.int v1)]) (st' := [.int 1]) (w' := W_X5 u) [] 2 (by with_unfolding_all rfl) trivial ?_
      cases hR
      exact ev_exit ⟨_, _, rfl, ⟨rfl, Or.inr ⟨rfl, rfl⟩⟩, ⟨rfl, rfl⟩, Nat.le_refl _, Nat.le_refl _⟩

def s_X5_changed_b40 (F : Nat) (u : S_X5) (v3 : Int32) : Option (Int32 × S_X5) := (s_X5_hearDue F u).bind fun y1 => (some (v3, y1))
set_option maxHeartbeats 4000000 in
set_option maxRecDepth 20000 in
theorem t_X5_changed_b40 (F : Nat) (u : S_X5) (v3 : Int32) (x : (Int32 × S_X5))  (hR : s_X5_changed_b40 F u v3 = some x) : ev_V mm_X5_changed none (ev_XR mm_X5_changed (fun r w => r = some (.int x.1) ∧ w = W_X5 x.2)) 40 [some (.ref 0), none, none, some (.int v3)] [] (W_X5 u) 0 0 := by
  unfold s_X5_changed_b40 at hR
  refine ev_run (cs := []) (pc' := 41) (L' := [some (.ref 0), none, none, some (.int v3)]) (st' := [.ref 0]) (w' := W_X5 u) [] 1 (by with_unfolding_all rfl) trivial ?_
  obtain ⟨y1, h1, hR⟩ := lf_b hR
  refine ev_callV1 0 (t_X5_hearDue F u _ h1) cv_X5_hearDue ml_X5_117 rfl rfl rfl (Nat.le_of_ble_eq_true rfl) (by with_unfolding_all rfl) (Nat.le_of_ble_eq_true rfl) ⟨Nat.le_of_ble_eq_true rfl, Nat.le_of_ble_eq_true rfl⟩ ⟨Nat.le_refl _, Nat.le_refl _⟩ ?_ ?_
  · rintro r w ⟨rfl, rfl⟩; rfl
  rintro r w ⟨rfl, rfl⟩
  refine ev_nx (pc' := 44) (st' := []) (w' := W_X5 y1) rfl rfl (by with_unfolding_all rfl) rfl rfl ?_
  refine ev_run (cs := []) (pc' := 45) (L' := [some (.ref 0), none, none, some (.int v3)]) (st' := [.int v3]) (w' := W_X5 y1) [] 1 (by with_unfolding_all rfl) trivial ?_
  cases hR
  exact ev_exit ⟨_, _, rfl, ⟨rfl, Or.inl rfl⟩, ⟨rfl, rfl⟩, Nat.le_refl _, Nat.le_refl _⟩

def s_X5_changed_b27 (F : Nat) (u : S_X5) (v3 : Int32) : Option (Int32 × S_X5) := if v3 = (-1) then (s_X5_changed_b40 F u v3) else ((s_X5_addReport F u v3 (-1) 0).bind fun y1 => (s_X5_changed_b40 F y1.2 v3))
set_option maxHeartbeats 4000000 in
set_option maxRecDepth 20000 in
theorem t_X5_changed_b27 (F : Nat) (u : S_X5) (v3 : Int32) (x : (Int32 × S_X5))  (hR : s_X5_changed_b27 F u v3 = some x) : ev_V mm_X5_changed none (ev_XR mm_X5_changed (fun r w => r = some (.int x.1) ∧ w = W_X5 x.2)) 27 [some (.ref 0), none, none, some (.int v3)] [] (W_X5 u) 0 0 := by
  unfold s_X5_changed_b27 at hR
  refine ev_run (cs := []) (pc' := 29) (L' := [some (.ref 0), none, none, some (.int v3)]) (st' := [.int (-1), .int v3]) (w' := W_X5 u) [] 2 (by with_unfolding_all rfl) trivial ?_
  refine ev_br rfl rfl (fun h1 => ?_) (fun h1 => ?_)
  · replace hR := lf_t h1 hR
    exact ev_to2 (t_X5_changed_b40 F u v3 _ hR) ⟨rfl, rfl, trivial⟩ rfl rfl
  · replace hR := lf_f h1 hR
    refine ev_run (cs := []) (pc' := 36) (L' := [some (.ref 0), none, none, some (.int v3)]) (st' := [.int 0, .int (-1), .int v3, .ref 0]) (w' := W_X5 u) [] 4 (by with_unfolding_all rfl) trivial ?_
    obtain ⟨y1, h2, hR⟩ := lf_b hR
    refine ev_callV1 0 (t_X5_addReport F u v3 (-1) 0 _ h2) cv_X5_addReport ml_X5_79 rfl rfl rfl (Nat.le_of_ble_eq_true rfl) (by with_unfolding_all rfl) (Nat.le_of_ble_eq_true rfl) ⟨Nat.le_of_ble_eq_true rfl, Nat.le_of_ble_eq_true rfl⟩ ⟨Nat.le_refl _, Nat.le_refl _⟩ ?_ ?_
    · rintro r w ⟨rfl, rfl⟩; rfl
    rintro r w ⟨rfl, rfl⟩
    refine ev_nx (pc' := 39) (st' := [.int y1.1]) (w' := W_X5 y1.2) rfl rfl (by with_unfolding_all rfl) rfl rfl ?_
    refine ev_run (cs := []) (pc' := 40) (L' := [some (.ref 0), none, none, some (.int v3)]) (st' := []) (w' := W_X5 y1.2) [] 1 (by with_unfolding_all rfl) trivial ?_
    exact ev_to2 (t_X5_changed_b40 F y1.2 v3 _ hR) ⟨rfl, rfl, trivial⟩ rfl rfl

def s_X5_changed (F : Nat) (u : S_X5) (v1 : Int32) (v2 : Int32) : Option (Int32 × S_X5) := if lf_ix v1 20377 then (if lf_ix v1 20377 then (if v2 = (-1) then (s_X5_changed_b27 F (m_X5_state (upd (a_X5_state u) v1.toNatClampNeg v2) u) ((a_X5_state u) v1.toNatClampNeg)) else ((s_X5_addReport F (m_X5_state (upd (a_X5_state u) v1.toNatClampNeg v2) u) v2 1 0).bind fun y1 => (s_X5_changed_b27 F y1.2 ((a_X5_state u) v1.toNatClampNeg)))) else none) else none
set_option maxHeartbeats 4000000 in
set_option maxRecDepth 20000 in
theorem t_X5_changed (F : Nat) (u : S_X5) (v1 : Int32) (v2 : Int32) (x : (Int32 × S_X5)) (hR : s_X5_changed F u v1 v2 = some x) : ev_A yX5_changed mm_X5_changed none [.ref 0, .int v1, .int v2] (W_X5 u) (fun r w => r = some (.int x.1) ∧ w = W_X5 x.2) := by
  unfold s_X5_changed at hR
  refine ev_start ok_X5_changed (by decide +kernel) rfl rfl (Nat.le_of_ble_eq_true rfl) ?_
  obtain ⟨h1, hR⟩ := lf_g hR
  obtain ⟨h2, hR⟩ := lf_g hR
  refine ev_run (cs := [lf_ix v1 20377, lf_ix v1 20377]) (pc' := 16) (L' := [some (.ref 0), some (.int v1), some (.int v2), some (.int ((a_X5_state u) v1.toNatClampNeg))]) (st' := [.int (-1), .int v2]) (w' := W_X5 (m_X5_state (upd (a_X5_state u) v1.toNatClampNeg v2) u)) [] 12 (by with_unfolding_all rfl) ⟨h1, h2⟩ ?_
  refine ev_br rfl rfl (fun h3 => ?_) (fun h3 => ?_)
  · replace hR := lf_t h3 hR
    exact ev_to2 (t_X5_changed_b27 F (m_X5_state (upd (a_X5_state u) v1.toNatClampNeg v2) u) ((a_X5_state u) v1.toNatClampNeg) _ hR) ⟨rfl, rfl, trivial⟩ rfl rfl
  · replace hR := lf_f h3 hR
    refine ev_run (cs := []) (pc' := 23) (L' := [some (.ref 0), some (.int v1), some (.int v2), some (.int ((a_X5_state u) v1.toNatClampNeg))]) (st' := [.int 0, .int 1, .int v2, .ref 0]) (w' := W_X5 (m_X5_state (upd (a_X5_state u) v1.toNatClampNeg v2) u)) [] 4 (by with_unfolding_all rfl) trivial ?_
    obtain ⟨y1, h4, hR⟩ := lf_b hR
    refine ev_callV1 0 (t_X5_addReport F (m_X5_state (upd (a_X5_state u) v1.toNatClampNeg v2) u) v2 1 0 _ h4) cv_X5_addReport ml_X5_79 rfl rfl rfl (Nat.le_of_ble_eq_true rfl) (by with_unfolding_all rfl) (Nat.le_of_ble_eq_true rfl) ⟨Nat.le_of_ble_eq_true rfl, Nat.le_of_ble_eq_true rfl⟩ ⟨Nat.le_refl _, Nat.le_refl _⟩ ?_ ?_
    · rintro r w ⟨rfl, rfl⟩; rfl
    rintro r w ⟨rfl, rfl⟩
    refine ev_nx (pc' := 26) (st' := [.int y1.1]) (w' := W_X5 y1.2) rfl rfl (by with_unfolding_all rfl) rfl rfl ?_
    refine ev_run (cs := []) (pc' := 27) (L' := [some (.ref 0), some (.int v1), some (.int v2), some (.int ((a_X5_state u) v1.toNatClampNeg))]) (st' := []) (w' := W_X5 y1.2) [] 1 (by with_unfolding_all rfl) trivial ?_
    exact ev_to2 (t_X5_changed_b27 F y1.2 ((a_X5_state u) v1.toNatClampNeg) _ hR) ⟨rfl, rfl, trivial⟩ rfl rfl

def s_X5_whyNotTaken (F : Nat) (u : S_X5) (v1 : Int32) (v2 : Int32) : Option Int32 := (s_X5_within F v1 0 3).bind fun y1 => (if y1 then ((s_X5_isHeld F u v2).bind fun y2 => (if y2 then ((s_X5_hasEnded F u v2).bind fun y3 => (if y3 then (some (2)) else (some (0)))) else (some (1)))) else (some (1)))
set_option maxHeartbeats 4000000 in
set_option maxRecDepth 20000 in
theorem t_X5_whyNotTaken (F : Nat) (u : S_X5) (v1 : Int32) (v2 : Int32) (x : Int32) (hR : s_X5_whyNotTaken F u v1 v2 = some x) : ev_A yX5_whyNotTaken mm_X5_whyNotTaken none [.ref 0, .int v1, .int v2] (W_X5 u) (fun r w => r = some (.int x) ∧ w = W_X5 u) := by
  unfold s_X5_whyNotTaken at hR
  refine ev_start ok_X5_whyNotTaken (by decide +kernel) rfl rfl (Nat.le_of_ble_eq_true rfl) ?_
  refine ev_run (cs := []) (pc' := 3) (L' := [some (.ref 0), some (.int v1), some (.int v2)]) (st' := [.int 3, .int 0, .int v1]) (w' := W_X5 u) [] 3 (by with_unfolding_all rfl) trivial ?_
  obtain ⟨y1, h1, hR⟩ := lf_b hR
  refine ev_callS1 0 (t_X5_within F v1 0 3 _ h1) cs_X5_within ml_X5_46 rfl rfl rfl (Nat.le_of_ble_eq_true rfl) (by with_unfolding_all rfl) (Nat.le_of_ble_eq_true rfl) ⟨Nat.le_of_ble_eq_true rfl, Nat.le_of_ble_eq_true rfl⟩ ⟨Nat.le_refl _, Nat.le_refl _⟩ ?_ ?_
  · rintro r w ⟨rfl, rfl⟩; rfl
  rintro r w ⟨rfl, rfl⟩
  refine ev_nx (pc' := 6) (st' := [.int (ev_b y1)]) (w' := W_X5 u) rfl rfl (by with_unfolding_all rfl) rfl rfl ?_
  refine ev_br rfl rfl (fun h2 => ?_) (fun h2 => ?_)
  · replace hR := lf_z0 h2 hR
    refine ev_run (cs := []) (pc' := 34) (L' := [some (.ref 0), some (.int v1), some (.int v2)]) (st' := [.int 1]) (w' := W_X5 u) [] 2 (by with_unfolding_all rfl) trivial ?_
    cases hR
    exact ev_exit ⟨_, _, rfl, ⟨rfl, Or.inl rfl⟩, ⟨rfl, rfl⟩, Nat.le_refl _, Nat.le_refl _⟩
  · replace hR := lf_z1 h2 hR
    refine ev_run (cs := []) (pc' := 11) (L' := [some (.ref 0), some (.int v1), some (.int v2)]) (st' := [.int v2, .ref 0]) (w' := W_X5 u) [] 2 (by with_unfolding_all rfl) trivial ?_
    obtain ⟨y2, h3, hR⟩ := lf_b hR
    refine ev_callV1 0 (t_X5_isHeld F u v2 _ h3) cv_X5_isHeld ml_X5_120 rfl rfl rfl (Nat.le_of_ble_eq_true rfl) (by with_unfolding_all rfl) (Nat.le_of_ble_eq_true rfl) ⟨Nat.le_of_ble_eq_true rfl, Nat.le_of_ble_eq_true rfl⟩ ⟨Nat.le_refl _, Nat.le_refl _⟩ ?_ ?_
    · rintro r w ⟨rfl, rfl⟩; rfl
    rintro r w ⟨rfl, rfl⟩
    refine ev_nx (pc' := 14) (st' := [.int (ev_b y2)]) (w' := W_X5 u) rfl rfl (by with_unfolding_all rfl) rfl rfl ?_
    refine ev_br rfl rfl (fun h4 => ?_) (fun h4 => ?_)
    · replace hR := lf_z1 h4 hR
      refine ev_run (cs := []) (pc' := 23) (L' := [some (.ref 0), some (.int v1), some (.int v2)]) (st' := [.int v2, .ref 0]) (w' := W_X5 u) [] 2 (by with_unfolding_all rfl) trivial ?_
      obtain ⟨y3, h5, hR⟩ := lf_b hR
      refine ev_callV1 0 (t_X5_hasEnded F u v2 _ h5) cv_X5_hasEnded ml_X5_123 rfl rfl rfl (Nat.le_of_ble_eq_true rfl) (by with_unfolding_all rfl) (Nat.le_of_ble_eq_true rfl) ⟨Nat.le_of_ble_eq_true rfl, Nat.le_of_ble_eq_true rfl⟩ ⟨Nat.le_refl _, Nat.le_refl _⟩ ?_ ?_
      · rintro r w ⟨rfl, rfl⟩; rfl
      rintro r w ⟨rfl, rfl⟩
      refine ev_nx (pc' := 26) (st' := [.int (ev_b y3)]) (w' := W_X5 u) rfl rfl (by with_unfolding_all rfl) rfl rfl ?_
      refine ev_br rfl rfl (fun h6 => ?_) (fun h6 => ?_)
      · replace hR := lf_z0 h6 hR
        refine ev_run (cs := []) (pc' := 34) (L' := [some (.ref 0), some (.int v1), some (.int v2)]) (st' := [.int 0]) (w' := W_X5 u) [] 1 (by with_unfolding_all rfl) trivial ?_
        cases hR
        exact ev_exit ⟨_, _, rfl, ⟨rfl, Or.inl rfl⟩, ⟨rfl, rfl⟩, Nat.le_refl _, Nat.le_refl _⟩
      · replace hR := lf_z1 h6 hR
        refine ev_run (cs := []) (pc' := 34) (L' := [some (.ref 0), some (.int v1), some (.int v2)]) (st' := [.int 2]) (w' := W_X5 u) [] 2 (by with_unfolding_all rfl) trivial ?_
        cases hR
        exact ev_exit ⟨_, _, rfl, ⟨rfl, Or.inl rfl⟩, ⟨rfl, rfl⟩, Nat.le_refl _, Nat.le_refl _⟩
    · replace hR := lf_z0 h4 hR
      refine ev_run (cs := []) (pc' := 34) (L' := [some (.ref 0), some (.int v1), some (.int v2)]) (st' := [.int 1]) (w' := W_X5 u) [] 2 (by with_unfolding_all rfl) trivial ?_
      cases hR
      exact ev_exit ⟨_, _, rfl, ⟨rfl, Or.inl rfl⟩, ⟨rfl, rfl⟩, Nat.le_refl _, Nat.le_refl _⟩

def s_X5_take (F : Nat) (u : S_X5) (v1 : Int32) (v2 : Int32) : Option (Int32 × S_X5) := (s_X5_whyNotTaken F u v1 v2).bind fun y1 => (if y1 ≤ 0 then ((s_X5_save F (m_X5_thrown y1 u)).bind fun y2 => ((s_X5_changed F y2 (13 + v1) v2).bind fun y3 => (some (y3.1, y3.2)))) else (some (0, m_X5_thrown y1 u)))
set_option maxHeartbeats 4000000 in
set_option maxRecDepth 20000 in
theorem t_X5_take (F : Nat) (u : S_X5) (v1 : Int32) (v2 : Int32) (x : (Int32 × S_X5)) (hR : s_X5_take F u v1 v2 = some x) : ev_A yX5_take mm_X5_take none [.ref 0, .int v1, .int v2] (W_X5 u) (fun r w => r = some (.int x.1) ∧ w = W_X5 x.2) := by
  unfold s_X5_take at hR
  refine ev_start ok_X5_take (by decide +kernel) rfl rfl (Nat.le_of_ble_eq_true rfl) ?_
  refine ev_run (cs := []) (pc' := 4) (L' := [some (.ref 0), some (.int v1), some (.int v2)]) (st' := [.int v2, .int v1, .ref 0, .ref 0]) (w' := W_X5 u) [] 4 (by with_unfolding_all rfl) trivial ?_
  obtain ⟨y1, h1, hR⟩ := lf_b hR
  refine ev_callV1 0 (t_X5_whyNotTaken F u v1 v2 _ h1) cv_X5_whyNotTaken ml_X5_126 rfl rfl rfl (Nat.le_of_ble_eq_true rfl) (by with_unfolding_all rfl) (Nat.le_of_ble_eq_true rfl) ⟨Nat.le_of_ble_eq_true rfl, Nat.le_of_ble_eq_true rfl⟩ ⟨Nat.le_refl _, Nat.le_refl _⟩ ?_ ?_
  · rintro r w ⟨rfl, rfl⟩; rfl
  rintro r w ⟨rfl, rfl⟩
  refine ev_nx (pc' := 7) (st' := [.int y1, .ref 0]) (w' := W_X5 u) rfl rfl (by with_unfolding_all rfl) rfl rfl ?_
  refine ev_run (cs := []) (pc' := 14) (L' := [some (.ref 0), some (.int v1), some (.int v2)]) (st' := [.int y1]) (w' := W_X5 (m_X5_thrown y1 u)) [] 3 (by with_unfolding_all rfl) trivial ?_
  refine ev_br rfl rfl (fun h2 => ?_) (fun h2 => ?_)
  · replace hR := lf_t h2 hR
    refine ev_run (cs := []) (pc' := 20) (L' := [some (.ref 0), some (.int v1), some (.int v2)]) (st' := [.ref 0]) (w' := W_X5 (m_X5_thrown y1 u)) [] 1 (by with_unfolding_all rfl) trivial ?_
    obtain ⟨y2, h3, hR⟩ := lf_b hR
    refine ev_callV1 0 (t_X5_save F (m_X5_thrown y1 u) _ h3) cv_X5_save ml_X5_108 rfl rfl rfl (Nat.le_of_ble_eq_true rfl) (by with_unfolding_all rfl) (Nat.le_of_ble_eq_true rfl) ⟨Nat.le_of_ble_eq_true rfl, Nat.le_of_ble_eq_true rfl⟩ ⟨Nat.le_refl _, Nat.le_refl _⟩ ?_ ?_
    · rintro r w ⟨rfl, rfl⟩; rfl
    rintro r w ⟨rfl, rfl⟩
    refine ev_nx (pc' := 23) (st' := []) (w' := W_X5 y2) rfl rfl (by with_unfolding_all rfl) rfl rfl ?_
    refine ev_run (cs := []) (pc' := 29) (L' := [some (.ref 0), some (.int v1), some (.int v2)]) (st' := [.int v2, .int (13 + v1), .ref 0]) (w' := W_X5 y2) [] 5 (by with_unfolding_all rfl) trivial ?_
    obtain ⟨y3, h4, hR⟩ := lf_b hR
    refine ev_callV1 0 (t_X5_changed F y2 (13 + v1) v2 _ h4) cv_X5_changed ml_X5_129 rfl rfl rfl (Nat.le_of_ble_eq_true rfl) (by with_unfolding_all rfl) (Nat.le_of_ble_eq_true rfl) ⟨Nat.le_of_ble_eq_true rfl, Nat.le_of_ble_eq_true rfl⟩ ⟨Nat.le_refl _, Nat.le_refl _⟩ ?_ ?_
    · rintro r w ⟨rfl, rfl⟩; rfl
    rintro r w ⟨rfl, rfl⟩
    refine ev_nx (pc' := 32) (st' := [.int y3.1]) (w' := W_X5 y3.2) rfl rfl (by with_unfolding_all rfl) rfl rfl ?_
    cases hR
    exact ev_exit ⟨_, _, rfl, ⟨rfl, Or.inl rfl⟩, ⟨rfl, rfl⟩, Nat.le_refl _, Nat.le_refl _⟩
  · replace hR := lf_f h2 hR
    refine ev_run (cs := []) (pc' := 18) (L' := [some (.ref 0), some (.int v1), some (.int v2)]) (st' := [.int 0]) (w' := W_X5 (m_X5_thrown y1 u)) [] 1 (by with_unfolding_all rfl) trivial ?_
    cases hR
    exact ev_exit ⟨_, _, rfl, ⟨rfl, Or.inl rfl⟩, ⟨rfl, rfl⟩, Nat.le_refl _, Nat.le_refl _⟩

def s_X5_whyNotPut (F : Nat) (u : S_X5) (v1 : Int32) (v2 : Int32) (v3 : Int32) : Option Int32 := (s_X5_isThing F u v1).bind fun y1 => (if y1 then ((s_X5_within F v2 0 3).bind fun y2 => (if y2 then ((s_X5_isHeld F u v3).bind fun y3 => (if y3 then ((s_X5_lives F u v1).bind fun y4 => (if y4 then ((s_X5_hasEnded F u v3).bind fun y5 => (if y5 then (some (2)) else (some (0)))) else (some (2)))) else (some (1)))) else (some (1)))) else (some (1)))
set_option maxHeartbeats 4000000 in
set_option maxRecDepth 20000 in
theorem t_X5_whyNotPut (F : Nat) (u : S_X5) (v1 : Int32) (v2 : Int32) (v3 : Int32) (x : Int32) (hR : s_X5_whyNotPut F u v1 v2 v3 = some x) : ev_A yX5_whyNotPut mm_X5_whyNotPut none [.ref 0, .int v1, .int v2, .int v3] (W_X5 u) (fun r w => r = some (.int x) ∧ w = W_X5 u) := by
  unfold s_X5_whyNotPut at hR
  refine ev_start ok_X5_whyNotPut (by decide +kernel) rfl rfl (Nat.le_of_ble_eq_true rfl) ?_
  refine ev_run (cs := []) (pc' := 2) (L' := [some (.ref 0), some (.int v1), some (.int v2), some (.int v3)]) (st' := [.int v1, .ref 0]) (w' := W_X5 u) [] 2 (by with_unfolding_all rfl) trivial ?_
  obtain ⟨y1, h1, hR⟩ := lf_b hR
  refine ev_callV1 0 (t_X5_isThing F u v1 _ h1) cv_X5_isThing ml_X5_114 rfl rfl rfl (Nat.le_of_ble_eq_true rfl) (by with_unfolding_all rfl) (Nat.le_of_ble_eq_true rfl) ⟨Nat.le_of_ble_eq_true rfl, Nat.le_of_ble_eq_true rfl⟩ ⟨Nat.le_refl _, Nat.le_refl _⟩ ?_ ?_
  · rintro r w ⟨rfl, rfl⟩; rfl
  rintro r w ⟨rfl, rfl⟩
  refine ev_nx (pc' := 5) (st' := [.int (ev_b y1)]) (w' := W_X5 u) rfl rfl (by with_unfolding_all rfl) rfl rfl ?_
  refine ev_br rfl rfl (fun h2 => ?_) (fun h2 => ?_)
  · replace hR := lf_z0 h2 hR
    refine ev_run (cs := []) (pc' := 26) (L' := [some (.ref 0), some (.int v1), some (.int v2), some (.int v3)]) (st' := [.int 1]) (w' := W_X5 u) [] 1 (by with_unfolding_all rfl) trivial ?_
    cases hR
    exact ev_exit ⟨_, _, rfl, ⟨rfl, Or.inl rfl⟩, ⟨rfl, rfl⟩, Nat.le_refl _, Nat.le_refl _⟩
  · replace hR := lf_z1 h2 hR
    refine ev_run (cs := []) (pc' := 11) (L' := [some (.ref 0), some (.int v1), some (.int v2), some (.int v3)]) (st' := [.int 3, .int 0, .int v2]) (w' := W_X5 u) [] 3 (by with_unfolding_all rfl) trivial ?_
    obtain ⟨y2, h3, hR⟩ := lf_b hR
    refine ev_callS1 0 (t_X5_within F v2 0 3 _ h3) cs_X5_within ml_X5_46 rfl rfl rfl (Nat.le_of_ble_eq_true rfl) (by with_unfolding_all rfl) (Nat.le_of_ble_eq_true rfl) ⟨Nat.le_of_ble_eq_true rfl, Nat.le_of_ble_eq_true rfl⟩ ⟨Nat.le_refl _, Nat.le_refl _⟩ ?_ ?_
    · rintro r w ⟨rfl, rfl⟩; rfl
    rintro r w ⟨rfl, rfl⟩
    refine ev_nx (pc' := 14) (st' := [.int (ev_b y2)]) (w' := W_X5 u) rfl rfl (by with_unfolding_all rfl) rfl rfl ?_
    refine ev_br rfl rfl (fun h4 => ?_) (fun h4 => ?_)
    · replace hR := lf_z0 h4 hR
      refine ev_run (cs := []) (pc' := 26) (L' := [some (.ref 0), some (.int v1), some (.int v2), some (.int v3)]) (st' := [.int 1]) (w' := W_X5 u) [] 1 (by with_unfolding_all rfl) trivial ?_
      cases hR
      exact ev_exit ⟨_, _, rfl, ⟨rfl, Or.inl rfl⟩, ⟨rfl, rfl⟩, Nat.le_refl _, Nat.le_refl _⟩
    · replace hR := lf_z1 h4 hR
      refine ev_run (cs := []) (pc' := 19) (L' := [some (.ref 0), some (.int v1), some (.int v2), some (.int v3)]) (st' := [.int v3, .ref 0]) (w' := W_X5 u) [] 2 (by with_unfolding_all rfl) trivial ?_
      obtain ⟨y3, h5, hR⟩ := lf_b hR
      refine ev_callV1 0 (t_X5_isHeld F u v3 _ h5) cv_X5_isHeld ml_X5_120 rfl rfl rfl (Nat.le_of_ble_eq_true rfl) (by with_unfolding_all rfl) (Nat.le_of_ble_eq_true rfl) ⟨Nat.le_of_ble_eq_true rfl, Nat.le_of_ble_eq_true rfl⟩ ⟨Nat.le_refl _, Nat.le_refl _⟩ ?_ ?_
      · rintro r w ⟨rfl, rfl⟩; rfl
      rintro r w ⟨rfl, rfl⟩
      refine ev_nx (pc' := 22) (st' := [.int (ev_b y3)]) (w' := W_X5 u) rfl rfl (by with_unfolding_all rfl) rfl rfl ?_
      refine ev_br rfl rfl (fun h6 => ?_) (fun h6 => ?_)
      · replace hR := lf_z1 h6 hR
        refine ev_run (cs := []) (pc' := 29) (L' := [some (.ref 0), some (.int v1), some (.int v2), some (.int v3)]) (st' := [.int v1, .ref 0]) (w' := W_X5 u) [] 2 (by with_unfolding_all rfl) trivial ?_
        obtain ⟨y4, h7, hR⟩ := lf_b hR
        refine ev_callV1 0 (t_X5_lives F u v1 _ h7) cv_X5_lives ml_X5_54 rfl rfl rfl (Nat.le_of_ble_eq_true rfl) (by with_unfolding_all rfl) (Nat.le_of_ble_eq_true rfl) ⟨Nat.le_of_ble_eq_true rfl, Nat.le_of_ble_eq_true rfl⟩ ⟨Nat.le_refl _, Nat.le_refl _⟩ ?_ ?_
        · rintro r w ⟨rfl, rfl⟩; rfl
        rintro r w ⟨rfl, rfl⟩
        refine ev_nx (pc' := 32) (st' := [.int (ev_b y4)]) (w' := W_X5 u) rfl rfl (by with_unfolding_all rfl) rfl rfl ?_
        refine ev_br rfl rfl (fun h8 => ?_) (fun h8 => ?_)
        · replace hR := lf_z0 h8 hR
          refine ev_run (cs := []) (pc' := 48) (L' := [some (.ref 0), some (.int v1), some (.int v2), some (.int v3)]) (st' := [.int 2]) (w' := W_X5 u) [] 2 (by with_unfolding_all rfl) trivial ?_
          cases hR
          exact ev_exit ⟨_, _, rfl, ⟨rfl, Or.inl rfl⟩, ⟨rfl, rfl⟩, Nat.le_refl _, Nat.le_refl _⟩
        · replace hR := lf_z1 h8 hR
          refine ev_run (cs := []) (pc' := 37) (L' := [some (.ref 0), some (.int v1), some (.int v2), some (.int v3)]) (st' := [.int v3, .ref 0]) (w' := W_X5 u) [] 2 (by with_unfolding_all rfl) trivial ?_
          obtain ⟨y5, h9, hR⟩ := lf_b hR
          refine ev_callV1 0 (t_X5_hasEnded F u v3 _ h9) cv_X5_hasEnded ml_X5_123 rfl rfl rfl (Nat.le_of_ble_eq_true rfl) (by with_unfolding_all rfl) (Nat.le_of_ble_eq_true rfl) ⟨Nat.le_of_ble_eq_true rfl, Nat.le_of_ble_eq_true rfl⟩ ⟨Nat.le_refl _, Nat.le_refl _⟩ ?_ ?_
          · rintro r w ⟨rfl, rfl⟩; rfl
          rintro r w ⟨rfl, rfl⟩
          refine ev_nx (pc' := 40) (st' := [.int (ev_b y5)]) (w' := W_X5 u) rfl rfl (by with_unfolding_all rfl) rfl rfl ?_
          refine ev_br rfl rfl (fun h10 => ?_) (fun h10 => ?_)
          · replace hR := lf_z0 h10 hR
            refine ev_run (cs := []) (pc' := 48) (L' := [some (.ref 0), some (.int v1), some (.int v2), some (.int v3)]) (st' := [.int 0]) (w' := W_X5 u) [] 1 (by with_unfolding_all rfl) trivial ?_
            cases hR
            exact ev_exit ⟨_, _, rfl, ⟨rfl, Or.inl rfl⟩, ⟨rfl, rfl⟩, Nat.le_refl _, Nat.le_refl _⟩
          · replace hR := lf_z1 h10 hR
            refine ev_run (cs := []) (pc' := 48) (L' := [some (.ref 0), some (.int v1), some (.int v2), some (.int v3)]) (st' := [.int 2]) (w' := W_X5 u) [] 2 (by with_unfolding_all rfl) trivial ?_
            cases hR
            exact ev_exit ⟨_, _, rfl, ⟨rfl, Or.inl rfl⟩, ⟨rfl, rfl⟩, Nat.le_refl _, Nat.le_refl _⟩
      · replace hR := lf_z0 h6 hR
        refine ev_run (cs := []) (pc' := 26) (L' := [some (.ref 0), some (.int v1), some (.int v2), some (.int v3)]) (st' := [.int 1]) (w' := W_X5 u) [] 1 (by with_unfolding_all rfl) trivial ?_
        cases hR
        exact ev_exit ⟨_, _, rfl, ⟨rfl, Or.inl rfl⟩, ⟨rfl, rfl⟩, Nat.le_refl _, Nat.le_refl _⟩

def s_X5_put (F : Nat) (u : S_X5) (v1 : Int32) (v2 : Int32) (v3 : Int32) : Option (Int32 × S_X5) := (s_X5_whyNotPut F u v1 v2 v3).bind fun y1 => (if y1 ≤ 0 then ((s_X5_save F (m_X5_thrown y1 u)).bind fun y2 => ((s_X5_changed F y2 ((257 + (4 * v1)) + v2) v3).bind fun y3 => (some (y3.1, y3.2)))) else (some (0, m_X5_thrown y1 u)))
set_option maxHeartbeats 4000000 in
set_option maxRecDepth 20000 in
theorem t_X5_put (F : Nat) (u : S_X5) (v1 : Int32) (v2 : Int32) (v3 : Int32) (x : (Int32 × S_X5)) (hR : s_X5_put F u v1 v2 v3 = some x) : ev_A yX5_put mm_X5_put none [.ref 0, .int v1, .int v2, .int v3] (W_X5 u) (fun r w => r = some (.int x.1) ∧ w = W_X5 x.2) := by
  unfold s_X5_put at hR
  refine ev_start ok_X5_put (by decide +kernel) rfl rfl (Nat.le_of_ble_eq_true rfl) ?_
  refine ev_run (cs := []) (pc' := 5) (L' := [some (.ref 0), some (.int v1), some (.int v2), some (.int v3)]) (st' := [.int v3, .int v2, .int v1, .ref 0, .ref 0]) (w' := W_X5 u) [] 5 (by with_unfolding_all rfl) trivial ?_
  obtain ⟨y1, h1, hR⟩ := lf_b hR
  refine ev_callV1 0 (t_X5_whyNotPut F u v1 v2 v3 _ h1) cv_X5_whyNotPut ml_X5_132 rfl rfl rfl (Nat.le_of_ble_eq_true rfl) (by with_unfolding_all rfl) (Nat.le_of_ble_eq_true rfl) ⟨Nat.le_of_ble_eq_true rfl, Nat.le_of_ble_eq_true rfl⟩ ⟨Nat.le_refl _, Nat.le_refl _⟩ ?_ ?_
  · rintro r w ⟨rfl, rfl⟩; rfl
  rintro r w ⟨rfl, rfl⟩
  refine ev_nx (pc' := 8) (st' := [.int y1, .ref 0]) (w' := W_X5 u) rfl rfl (by with_unfolding_all rfl) rfl rfl ?_
  refine ev_run (cs := []) (pc' := 15) (L' := [some (.ref 0), some (.int v1), some (.int v2), some (.int v3)]) (st' := [.int y1]) (w' := W_X5 (m_X5_thrown y1 u)) [] 3 (by with_unfolding_all rfl) trivial ?_
  refine ev_br rfl rfl (fun h2 => ?_) (fun h2 => ?_)
  · replace hR := lf_t h2 hR
    refine ev_run (cs := []) (pc' := 21) (L' := [some (.ref 0), some (.int v1), some (.int v2), some (.int v3)]) (st' := [.ref 0]) (w' := W_X5 (m_X5_thrown y1 u)) [] 1 (by with_unfolding_all rfl) trivial ?_
    obtain ⟨y2, h3, hR⟩ := lf_b hR
    refine ev_callV1 0 (t_X5_save F (m_X5_thrown y1 u) _ h3) cv_X5_save ml_X5_108 rfl rfl rfl (Nat.le_of_ble_eq_true rfl) (by with_unfolding_all rfl) (Nat.le_of_ble_eq_true rfl) ⟨Nat.le_of_ble_eq_true rfl, Nat.le_of_ble_eq_true rfl⟩ ⟨Nat.le_refl _, Nat.le_refl _⟩ ?_ ?_
    · rintro r w ⟨rfl, rfl⟩; rfl
    rintro r w ⟨rfl, rfl⟩
    refine ev_nx (pc' := 24) (st' := []) (w' := W_X5 y2) rfl rfl (by with_unfolding_all rfl) rfl rfl ?_
    refine ev_run (cs := []) (pc' := 35) (L' := [some (.ref 0), some (.int v1), some (.int v2), some (.int v3)]) (st' := [.int v3, .int ((257 + (4 * v1)) + v2), .ref 0]) (w' := W_X5 y2) [] 9 (by with_unfolding_all rfl) trivial ?_
    obtain ⟨y3, h4, hR⟩ := lf_b hR
    refine ev_callV1 0 (t_X5_changed F y2 ((257 + (4 * v1)) + v2) v3 _ h4) cv_X5_changed ml_X5_129 rfl rfl rfl (Nat.le_of_ble_eq_true rfl) (by with_unfolding_all rfl) (Nat.le_of_ble_eq_true rfl) ⟨Nat.le_of_ble_eq_true rfl, Nat.le_of_ble_eq_true rfl⟩ ⟨Nat.le_refl _, Nat.le_refl _⟩ ?_ ?_
    · rintro r w ⟨rfl, rfl⟩; rfl
    rintro r w ⟨rfl, rfl⟩
    refine ev_nx (pc' := 38) (st' := [.int y3.1]) (w' := W_X5 y3.2) rfl rfl (by with_unfolding_all rfl) rfl rfl ?_
    cases hR
    exact ev_exit ⟨_, _, rfl, ⟨rfl, Or.inl rfl⟩, ⟨rfl, rfl⟩, Nat.le_refl _, Nat.le_refl _⟩
  · replace hR := lf_f h2 hR
    refine ev_run (cs := []) (pc' := 19) (L' := [some (.ref 0), some (.int v1), some (.int v2), some (.int v3)]) (st' := [.int 0]) (w' := W_X5 (m_X5_thrown y1 u)) [] 1 (by with_unfolding_all rfl) trivial ?_
    cases hR
    exact ev_exit ⟨_, _, rfl, ⟨rfl, Or.inl rfl⟩, ⟨rfl, rfl⟩, Nat.le_refl _, Nat.le_refl _⟩

def s_X5_slandered (F : Nat) (u : S_X5) (v1 : Int32) (v2 : Int32) : Option (Int32 × S_X5) := (s_X5_addReport F u v1 v2 1).bind fun y1 => ((s_X5_hearDue F y1.2).bind fun y2 => (some (y1.1, y2)))
set_option maxHeartbeats 4000000 in
set_option maxRecDepth 20000 in
theorem t_X5_slandered (F : Nat) (u : S_X5) (v1 : Int32) (v2 : Int32) (x : (Int32 × S_X5)) (hR : s_X5_slandered F u v1 v2 = some x) : ev_A yX5_slandered mm_X5_slandered none [.ref 0, .int v1, .int v2] (W_X5 u) (fun r w => r = some (.int x.1) ∧ w = W_X5 x.2) := by
  unfold s_X5_slandered at hR
  refine ev_start ok_X5_slandered (by decide +kernel) rfl rfl (Nat.le_of_ble_eq_true rfl) ?_
  refine ev_run (cs := []) (pc' := 4) (L' := [some (.ref 0), some (.int v1), some (.int v2), none]) (st' := [.int 1, .int v2, .int v1, .ref 0]) (w' := W_X5 u) [] 4 (by with_unfolding_all rfl) trivial ?_
  obtain ⟨y1, h1, hR⟩ := lf_b hR
  refine ev_callV1 0 (t_X5_addReport F u v1 v2 1 _ h1) cv_X5_addReport ml_X5_79 rfl rfl rfl (Nat.le_of_ble_eq_true rfl) (by with_unfolding_all rfl) (Nat.le_of_ble_eq_true rfl) ⟨Nat.le_of_ble_eq_true rfl, Nat.le_of_ble_eq_true rfl⟩ ⟨Nat.le_refl _, Nat.le_refl _⟩ ?_ ?_
  · rintro r w ⟨rfl, rfl⟩; rfl
  rintro r w ⟨rfl, rfl⟩
  refine ev_nx (pc' := 7) (st' := [.int y1.1]) (w' := W_X5 y1.2) rfl rfl (by with_unfolding_all rfl) rfl rfl ?_
  refine ev_run (cs := []) (pc' := 9) (L' := [some (.ref 0), some (.int v1), some (.int v2), some (.int y1.1)]) (st' := [.ref 0]) (w' := W_X5 y1.2) [] 2 (by with_unfolding_all rfl) trivial ?_
  obtain ⟨y2, h2, hR⟩ := lf_b hR
  refine ev_callV1 0 (t_X5_hearDue F y1.2 _ h2) cv_X5_hearDue ml_X5_117 rfl rfl rfl (Nat.le_of_ble_eq_true rfl) (by with_unfolding_all rfl) (Nat.le_of_ble_eq_true rfl) ⟨Nat.le_of_ble_eq_true rfl, Nat.le_of_ble_eq_true rfl⟩ ⟨Nat.le_refl _, Nat.le_refl _⟩ ?_ ?_
  · rintro r w ⟨rfl, rfl⟩; rfl
  rintro r w ⟨rfl, rfl⟩
  refine ev_nx (pc' := 12) (st' := []) (w' := W_X5 y2) rfl rfl (by with_unfolding_all rfl) rfl rfl ?_
  refine ev_run (cs := []) (pc' := 13) (L' := [some (.ref 0), some (.int v1), some (.int v2), some (.int y1.1)]) (st' := [.int y1.1]) (w' := W_X5 y2) [] 1 (by with_unfolding_all rfl) trivial ?_
  cases hR
  exact ev_exit ⟨_, _, rfl, ⟨rfl, Or.inl rfl⟩, ⟨rfl, rfl⟩, Nat.le_refl _, Nat.le_refl _⟩

def s_X5_slander_b40 (F : Nat) (u : S_X5) (v1 : Int32) (v2 : Int32) (p1 : Int32) : Option (Int32 × S_X5) := if p1 ≤ 0 then ((s_X5_save F (m_X5_thrown p1 u)).bind fun y1 => ((s_X5_slandered F y1 v1 v2).bind fun y2 => (some (y2.1, y2.2)))) else (some (0, m_X5_thrown p1 u))
set_option maxHeartbeats 4000000 in
set_option maxRecDepth 20000 in
theorem t_X5_slander_b40 (F : Nat) (u : S_X5) (v1 : Int32) (v2 : Int32) (p1 : Int32) (x : (Int32 × S_X5))  (hR : s_X5_slander_b40 F u v1 v2 p1 = some x) : ev_V mm_X5_slander none (ev_XR mm_X5_slander (fun r w => r = some (.int x.1) ∧ w = W_X5 x.2)) 40 [some (.ref 0), some (.int v1), some (.int v2)] [.int p1, .ref 0] (W_X5 u) 0 0 := by
  unfold s_X5_slander_b40 at hR
  refine ev_run (cs := []) (pc' := 47) (L' := [some (.ref 0), some (.int v1), some (.int v2)]) (st' := [.int p1]) (w' := W_X5 (m_X5_thrown p1 u)) [] 3 (by with_unfolding_all rfl) trivial ?_
  refine ev_br rfl rfl (fun h1 => ?_) (fun h1 => ?_)
  · replace hR := lf_t h1 hR
    refine ev_run (cs := []) (pc' := 53) (L' := [some (.ref 0), some (.int v1), some (.int v2)]) (st' := [.ref 0]) (w' := W_X5 (m_X5_thrown p1 u)) [] 1 (by with_unfolding_all rfl) trivial ?_
    obtain ⟨y1, h2, hR⟩ := lf_b hR
    refine ev_callV1 0 (t_X5_save F (m_X5_thrown p1 u) _ h2) cv_X5_save ml_X5_108 rfl rfl rfl (Nat.le_of_ble_eq_true rfl) (by with_unfolding_all rfl) (Nat.le_of_ble_eq_true rfl) ⟨Nat.le_of_ble_eq_true rfl, Nat.le_of_ble_eq_true rfl⟩ ⟨Nat.le_refl _, Nat.le_refl _⟩ ?_ ?_
    · rintro r w ⟨rfl, rfl⟩; rfl
    rintro r w ⟨rfl, rfl⟩
    refine ev_nx (pc' := 56) (st' := []) (w' := W_X5 y1) rfl rfl (by with_unfolding_all rfl) rfl rfl ?_
    refine ev_run (cs := []) (pc' := 59) (L' := [some (.ref 0), some (.int v1), some (.int v2)]) (st' := [.int v2, .int v1, .ref 0]) (w' := W_X5 y1) [] 3 (by with_unfolding_all rfl) trivial ?_
    obtain ⟨y2, h3, hR⟩ := lf_b hR
    refine ev_callV1 0 (t_X5_slandered F y1 v1 v2 _ h3) cv_X5_slandered ml_X5_135 rfl rfl rfl (Nat.le_of_ble_eq_true rfl) (by with_unfolding_all rfl) (Nat.le_of_ble_eq_true rfl) ⟨Nat.le_of_ble_eq_true rfl, Nat.le_of_ble_eq_true rfl⟩ ⟨Nat.le_refl _, Nat.le_refl _⟩ ?_ ?_
    · rintro r w ⟨rfl, rfl⟩; rfl
    rintro r w ⟨rfl, rfl⟩
    refine ev_nx (pc' := 62) (st' := [.int y2.1]) (w' := W_X5 y2.2) rfl rfl (by with_unfolding_all rfl) rfl rfl ?_
    cases hR
    exact ev_exit ⟨_, _, rfl, ⟨rfl, Or.inl rfl⟩, ⟨rfl, rfl⟩, Nat.le_refl _, Nat.le_refl _⟩
  · replace hR := lf_f h1 hR
    refine ev_run (cs := []) (pc' := 51) (L' := [some (.ref 0), some (.int v1), some (.int v2)]) (st' := [.int 0]) (w' := W_X5 (m_X5_thrown p1 u)) [] 1 (by with_unfolding_all rfl) trivial ?_
    cases hR
    exact ev_exit ⟨_, _, rfl, ⟨rfl, Or.inl rfl⟩, ⟨rfl, rfl⟩, Nat.le_refl _, Nat.le_refl _⟩

def s_X5_slander_b27 (F : Nat) (u : S_X5) (v1 : Int32) (v2 : Int32) : Option (Int32 × S_X5) := (s_X5_lives F u v1).bind fun y1 => (if y1 then (s_X5_slander_b40 F u v1 v2 0) else (s_X5_slander_b40 F u v1 v2 3))
set_option maxHeartbeats 4000000 in
set_option maxRecDepth 20000 in
theorem t_X5_slander_b27 (F : Nat) (u : S_X5) (v1 : Int32) (v2 : Int32) (x : (Int32 × S_X5))  (hR : s_X5_slander_b27 F u v1 v2 = some x) : ev_V mm_X5_slander none (ev_XR mm_X5_slander (fun r w => r = some (.int x.1) ∧ w = W_X5 x.2)) 27 [some (.ref 0), some (.int v1), some (.int v2)] [.ref 0] (W_X5 u) 0 0 := by
  unfold s_X5_slander_b27 at hR
  refine ev_run (cs := []) (pc' := 29) (L' := [some (.ref 0), some (.int v1), some (.int v2)]) (st' := [.int v1, .ref 0, .ref 0]) (w' := W_X5 u) [] 2 (by with_unfolding_all rfl) trivial ?_
  obtain ⟨y1, h1, hR⟩ := lf_b hR
  refine ev_callV1 0 (t_X5_lives F u v1 _ h1) cv_X5_lives ml_X5_54 rfl rfl rfl (Nat.le_of_ble_eq_true rfl) (by with_unfolding_all rfl) (Nat.le_of_ble_eq_true rfl) ⟨Nat.le_of_ble_eq_true rfl, Nat.le_of_ble_eq_true rfl⟩ ⟨Nat.le_refl _, Nat.le_refl _⟩ ?_ ?_
  · rintro r w ⟨rfl, rfl⟩; rfl
  rintro r w ⟨rfl, rfl⟩
  refine ev_nx (pc' := 32) (st' := [.int (ev_b y1), .ref 0]) (w' := W_X5 u) rfl rfl (by with_unfolding_all rfl) rfl rfl ?_
  refine ev_br rfl rfl (fun h2 => ?_) (fun h2 => ?_)
  · replace hR := lf_z1 h2 hR
    refine ev_run (cs := []) (pc' := 40) (L' := [some (.ref 0), some (.int v1), some (.int v2)]) (st' := [.int 0, .ref 0]) (w' := W_X5 u) [] 1 (by with_unfolding_all rfl) trivial ?_
    exact ev_to2 (t_X5_slander_b40 F u v1 v2 0 _ hR) ⟨rfl, rfl, rfl, trivial⟩ rfl rfl
  · replace hR := lf_z0 h2 hR
    refine ev_run (cs := []) (pc' := 40) (L' := [some (.ref 0), some (.int v1), some (.int v2)]) (st' := [.int 3, .ref 0]) (w' := W_X5 u) [] 2 (by with_unfolding_all rfl) trivial ?_
    exact ev_to2 (t_X5_slander_b40 F u v1 v2 3 _ hR) ⟨rfl, rfl, rfl, trivial⟩ rfl rfl

def s_X5_slander (F : Nat) (u : S_X5) (v1 : Int32) (v2 : Int32) : Option (Int32 × S_X5) := (s_X5_isThing F u v1).bind fun y1 => (if y1 then (if v2 = 1 then (s_X5_slander_b27 F u v1 v2) else (if v2 = (-1) then (s_X5_slander_b27 F u v1 v2) else (s_X5_slander_b40 F u v1 v2 2))) else (s_X5_slander_b40 F u v1 v2 1))
set_option maxHeartbeats 4000000 in
set_option maxRecDepth 20000 in
theorem t_X5_slander (F : Nat) (u : S_X5) (v1 : Int32) (v2 : Int32) (x : (Int32 × S_X5)) (hR : s_X5_slander F u v1 v2 = some x) : ev_A yX5_slander mm_X5_slander none [.ref 0, .int v1, .int v2] (W_X5 u) (fun r w => r = some (.int x.1) ∧ w = W_X5 x.2) := by
  unfold s_X5_slander at hR
  refine ev_start ok_X5_slander (by decide +kernel) rfl rfl (Nat.le_of_ble_eq_true rfl) ?_
  refine ev_run (cs := []) (pc' := 3) (L' := [some (.ref 0), some (.int v1), some (.int v2)]) (st' := [.int v1, .ref 0, .ref 0]) (w' := W_X5 u) [] 3 (by with_unfolding_all rfl) trivial ?_
  obtain ⟨y1, h1, hR⟩ := lf_b hR
  refine ev_callV1 0 (t_X5_isThing F u v1 _ h1) cv_X5_isThing ml_X5_114 rfl rfl rfl (Nat.le_of_ble_eq_true rfl) (by with_unfolding_all rfl) (Nat.le_of_ble_eq_true rfl) ⟨Nat.le_of_ble_eq_true rfl, Nat.le_of_ble_eq_true rfl⟩ ⟨Nat.le_refl _, Nat.le_refl _⟩ ?_ ?_
  · rintro r w ⟨rfl, rfl⟩; rfl
  rintro r w ⟨rfl, rfl⟩
  refine ev_nx (pc' := 6) (st' := [.int (ev_b y1), .ref 0]) (w' := W_X5 u) rfl rfl (by with_unfolding_all rfl) rfl rfl ?_
  refine ev_br rfl rfl (fun h2 => ?_) (fun h2 => ?_)
  · replace hR := lf_z1 h2 hR
    refine ev_run (cs := []) (pc' := 15) (L' := [some (.ref 0), some (.int v1), some (.int v2)]) (st' := [.int 1, .int v2, .ref 0]) (w' := W_X5 u) [] 2 (by with_unfolding_all rfl) trivial ?_
    refine ev_br rfl rfl (fun h3 => ?_) (fun h3 => ?_)
    · replace hR := lf_t h3 hR
      exact ev_to2 (t_X5_slander_b27 F u v1 v2 _ hR) ⟨rfl, rfl, rfl, trivial⟩ rfl rfl
    · replace hR := lf_f h3 hR
      refine ev_run (cs := []) (pc' := 20) (L' := [some (.ref 0), some (.int v1), some (.int v2)]) (st' := [.int (-1), .int v2, .ref 0]) (w' := W_X5 u) [] 2 (by with_unfolding_all rfl) trivial ?_
      refine ev_br rfl rfl (fun h4 => ?_) (fun h4 => ?_)
      · replace hR := lf_t h4 hR
        exact ev_to2 (t_X5_slander_b27 F u v1 v2 _ hR) ⟨rfl, rfl, rfl, trivial⟩ rfl rfl
      · replace hR := lf_f h4 hR
        refine ev_run (cs := []) (pc' := 40) (L' := [some (.ref 0), some (.int v1), some (.int v2)]) (st' := [.int 2, .ref 0]) (w' := W_X5 u) [] 2 (by with_unfolding_all rfl) trivial ?_
        exact ev_to2 (t_X5_slander_b40 F u v1 v2 2 _ hR) ⟨rfl, rfl, rfl, trivial⟩ rfl rfl
  · replace hR := lf_z0 h2 hR
    refine ev_run (cs := []) (pc' := 40) (L' := [some (.ref 0), some (.int v1), some (.int v2)]) (st' := [.int 1, .ref 0]) (w' := W_X5 u) [] 2 (by with_unfolding_all rfl) trivial ?_
    exact ev_to2 (t_X5_slander_b40 F u v1 v2 1 _ hR) ⟨rfl, rfl, rfl, trivial⟩ rfl rfl

def s_X5_suspect_b36 (F : Nat) (u : S_X5) (v1 : Int32) (p1 : Int32) : Option (Int32 × S_X5) := if p1 ≤ 0 then ((s_X5_save F (m_X5_thrown p1 u)).bind fun y1 => ((s_X5_setPart F y1 v1 3 1).bind fun y2 => ((s_X5_suspects F y2).bind fun y3 => (some (y3, y2))))) else (some (0, m_X5_thrown p1 u))
set_option maxHeartbeats 4000000 in
set_option maxRecDepth 20000 in
theorem t_X5_suspect_b36 (F : Nat) (u : S_X5) (v1 : Int32) (p1 : Int32) (x : (Int32 × S_X5))  (hR : s_X5_suspect_b36 F u v1 p1 = some x) : ev_V mm_X5_suspect none (ev_XR mm_X5_suspect (fun r w => r = some (.int x.1) ∧ w = W_X5 x.2)) 36 [some (.ref 0), some (.int v1)] [.int p1, .ref 0] (W_X5 u) 0 0 := by
  unfold s_X5_suspect_b36 at hR
  refine ev_run (cs := []) (pc' := 43) (L' := [some (.ref 0), some (.int v1)]) (st' := [.int p1]) (w' := W_X5 (m_X5_thrown p1 u)) [] 3 (by with_unfolding_all rfl) trivial ?_
  refine ev_br rfl rfl (fun h1 => ?_) (fun h1 => ?_)
  · replace hR := lf_t h1 hR
    refine ev_run (cs := []) (pc' := 49) (L' := [some (.ref 0), some (.int v1)]) (st' := [.ref 0]) (w' := W_X5 (m_X5_thrown p1 u)) [] 1 (by with_unfolding_all rfl) trivial ?_
    obtain ⟨y1, h2, hR⟩ := lf_b hR
    refine ev_callV1 0 (t_X5_save F (m_X5_thrown p1 u) _ h2) cv_X5_save ml_X5_108 rfl rfl rfl (Nat.le_of_ble_eq_true rfl) (by with_unfolding_all rfl) (Nat.le_of_ble_eq_true rfl) ⟨Nat.le_of_ble_eq_true rfl, Nat.le_of_ble_eq_true rfl⟩ ⟨Nat.le_refl _, Nat.le_refl _⟩ ?_ ?_
    · rintro r w ⟨rfl, rfl⟩; rfl
    rintro r w ⟨rfl, rfl⟩
    refine ev_nx (pc' := 52) (st' := []) (w' := W_X5 y1) rfl rfl (by with_unfolding_all rfl) rfl rfl ?_
    refine ev_run (cs := []) (pc' := 56) (L' := [some (.ref 0), some (.int v1)]) (st' := [.int 1, .int 3, .int v1, .ref 0]) (w' := W_X5 y1) [] 4 (by with_unfolding_all rfl) trivial ?_
    obtain ⟨y2, h3, hR⟩ := lf_b hR
    refine ev_callV1 0 (t_X5_setPart F y1 v1 3 1 _ h3) cv_X5_setPart ml_X5_71 rfl rfl rfl (Nat.le_of_ble_eq_true rfl) (by with_unfolding_all rfl) (Nat.le_of_ble_eq_true rfl) ⟨Nat.le_of_ble_eq_true rfl, Nat.le_of_ble_eq_true rfl⟩ ⟨Nat.le_refl _, Nat.le_refl _⟩ ?_ ?_
    · rintro r w ⟨rfl, rfl⟩; rfl
    rintro r w ⟨rfl, rfl⟩
    refine ev_nx (pc' := 59) (st' := []) (w' := W_X5 y2) rfl rfl (by with_unfolding_all rfl) rfl rfl ?_
    refine ev_run (cs := []) (pc' := 60) (L' := [some (.ref 0), some (.int v1)]) (st' := [.ref 0]) (w' := W_X5 y2) [] 1 (by with_unfolding_all rfl) trivial ?_
    obtain ⟨y3, h4, hR⟩ := lf_b hR
    refine ev_callV1 0 (t_X5_suspects F y2 _ h4) cv_X5_suspects ml_X5_138 rfl rfl rfl (Nat.le_of_ble_eq_true rfl) (by with_unfolding_all rfl) (Nat.le_of_ble_eq_true rfl) ⟨Nat.le_of_ble_eq_true rfl, Nat.le_of_ble_eq_true rfl⟩ ⟨Nat.le_refl _, Nat.le_refl _⟩ ?_ ?_
    · rintro r w ⟨rfl, rfl⟩; rfl
    rintro r w ⟨rfl, rfl⟩
    refine ev_nx (pc' := 63) (st' := [.int y3]) (w' := W_X5 y2) rfl rfl (by with_unfolding_all rfl) rfl rfl ?_
    cases hR
    exact ev_exit ⟨_, _, rfl, ⟨rfl, Or.inl rfl⟩, ⟨rfl, rfl⟩, Nat.le_refl _, Nat.le_refl _⟩
  · replace hR := lf_f h1 hR
    refine ev_run (cs := []) (pc' := 47) (L' := [some (.ref 0), some (.int v1)]) (st' := [.int 0]) (w' := W_X5 (m_X5_thrown p1 u)) [] 1 (by with_unfolding_all rfl) trivial ?_
    cases hR
    exact ev_exit ⟨_, _, rfl, ⟨rfl, Or.inl rfl⟩, ⟨rfl, rfl⟩, Nat.le_refl _, Nat.le_refl _⟩

def s_X5_suspect (F : Nat) (u : S_X5) (v1 : Int32) : Option (Int32 × S_X5) := (s_X5_isThing F u v1).bind fun y1 => (if y1 then ((s_X5_lives F u v1).bind fun y2 => (if y2 then ((s_X5_part F u v1 3).bind fun y3 => (if y3 = 1 then (s_X5_suspect_b36 F u v1 2) else (s_X5_suspect_b36 F u v1 0))) else (s_X5_suspect_b36 F u v1 2))) else (s_X5_suspect_b36 F u v1 1))
set_option maxHeartbeats 4000000 in
set_option maxRecDepth 20000 in
theorem t_X5_suspect (F : Nat) (u : S_X5) (v1 : Int32) (x : (Int32 × S_X5)) (hR : s_X5_suspect F u v1 = some x) : ev_A yX5_suspect mm_X5_suspect none [.ref 0, .int v1] (W_X5 u) (fun r w => r = some (.int x.1) ∧ w = W_X5 x.2) := by
  unfold s_X5_suspect at hR
  refine ev_start ok_X5_suspect (by decide +kernel) rfl rfl (Nat.le_of_ble_eq_true rfl) ?_
  refine ev_run (cs := []) (pc' := 3) (L' := [some (.ref 0), some (.int v1)]) (st' := [.int v1, .ref 0, .ref 0]) (w' := W_X5 u) [] 3 (by with_unfolding_all rfl) trivial ?_
  obtain ⟨y1, h1, hR⟩ := lf_b hR
  refine ev_callV1 0 (t_X5_isThing F u v1 _ h1) cv_X5_isThing ml_X5_114 rfl rfl rfl (Nat.le_of_ble_eq_true rfl) (by with_unfolding_all rfl) (Nat.le_of_ble_eq_true rfl) ⟨Nat.le_of_ble_eq_true rfl, Nat.le_of_ble_eq_true rfl⟩ ⟨Nat.le_refl _, Nat.le_refl _⟩ ?_ ?_
  · rintro r w ⟨rfl, rfl⟩; rfl
  rintro r w ⟨rfl, rfl⟩
  refine ev_nx (pc' := 6) (st' := [.int (ev_b y1), .ref 0]) (w' := W_X5 u) rfl rfl (by with_unfolding_all rfl) rfl rfl ?_
  refine ev_br rfl rfl (fun h2 => ?_) (fun h2 => ?_)
  · replace hR := lf_z1 h2 hR
    refine ev_run (cs := []) (pc' := 15) (L' := [some (.ref 0), some (.int v1)]) (st' := [.int v1, .ref 0, .ref 0]) (w' := W_X5 u) [] 2 (by with_unfolding_all rfl) trivial ?_
    obtain ⟨y2, h3, hR⟩ := lf_b hR
    refine ev_callV1 0 (t_X5_lives F u v1 _ h3) cv_X5_lives ml_X5_54 rfl rfl rfl (Nat.le_of_ble_eq_true rfl) (by with_unfolding_all rfl) (Nat.le_of_ble_eq_true rfl) ⟨Nat.le_of_ble_eq_true rfl, Nat.le_of_ble_eq_true rfl⟩ ⟨Nat.le_refl _, Nat.le_refl _⟩ ?_ ?_
    · rintro r w ⟨rfl, rfl⟩; rfl
    rintro r w ⟨rfl, rfl⟩
    refine ev_nx (pc' := 18) (st' := [.int (ev_b y2), .ref 0]) (w' := W_X5 u) rfl rfl (by with_unfolding_all rfl) rfl rfl ?_
    refine ev_br rfl rfl (fun h4 => ?_) (fun h4 => ?_)
    · replace hR := lf_z0 h4 hR
      refine ev_run (cs := []) (pc' := 36) (L' := [some (.ref 0), some (.int v1)]) (st' := [.int 2, .ref 0]) (w' := W_X5 u) [] 2 (by with_unfolding_all rfl) trivial ?_
      exact ev_to2 (t_X5_suspect_b36 F u v1 2 _ hR) ⟨rfl, rfl, trivial⟩ rfl rfl
    · replace hR := lf_z1 h4 hR
      refine ev_run (cs := []) (pc' := 24) (L' := [some (.ref 0), some (.int v1)]) (st' := [.int 3, .int v1, .ref 0, .ref 0]) (w' := W_X5 u) [] 3 (by with_unfolding_all rfl) trivial ?_
      obtain ⟨y3, h5, hR⟩ := lf_b hR
      refine ev_callV1 0 (t_X5_part F u v1 3 _ h5) cv_X5_part ml_X5_50 rfl rfl rfl (Nat.le_of_ble_eq_true rfl) (by with_unfolding_all rfl) (Nat.le_of_ble_eq_true rfl) ⟨Nat.le_of_ble_eq_true rfl, Nat.le_of_ble_eq_true rfl⟩ ⟨Nat.le_refl _, Nat.le_refl _⟩ ?_ ?_
      · rintro r w ⟨rfl, rfl⟩; rfl
      rintro r w ⟨rfl, rfl⟩
      refine ev_nx (pc' := 27) (st' := [.int y3, .ref 0]) (w' := W_X5 u) rfl rfl (by with_unfolding_all rfl) rfl rfl ?_
      refine ev_run (cs := []) (pc' := 28) (L' := [some (.ref 0), some (.int v1)]) (st' := [.int 1, .int y3, .ref 0]) (w' := W_X5 u) [] 1 (by with_unfolding_all rfl) trivial ?_
      refine ev_br rfl rfl (fun h6 => ?_) (fun h6 => ?_)
      · replace hR := lf_f h6 hR
        refine ev_run (cs := []) (pc' := 36) (L' := [some (.ref 0), some (.int v1)]) (st' := [.int 0, .ref 0]) (w' := W_X5 u) [] 1 (by with_unfolding_all rfl) trivial ?_
        exact ev_to2 (t_X5_suspect_b36 F u v1 0 _ hR) ⟨rfl, rfl, trivial⟩ rfl rfl
      · replace hR := lf_t h6 hR
        refine ev_run (cs := []) (pc' := 36) (L' := [some (.ref 0), some (.int v1)]) (st' := [.int 2, .ref 0]) (w' := W_X5 u) [] 2 (by with_unfolding_all rfl) trivial ?_
        exact ev_to2 (t_X5_suspect_b36 F u v1 2 _ hR) ⟨rfl, rfl, trivial⟩ rfl rfl
  · replace hR := lf_z0 h2 hR
    refine ev_run (cs := []) (pc' := 36) (L' := [some (.ref 0), some (.int v1)]) (st' := [.int 1, .ref 0]) (w' := W_X5 u) [] 2 (by with_unfolding_all rfl) trivial ?_
    exact ev_to2 (t_X5_suspect_b36 F u v1 1 _ hR) ⟨rfl, rfl, trivial⟩ rfl rfl

def s_X5_isSetting (F : Nat) (v0 : Int32) : Option Bool := (s_X5_within F v0 0 4).bind fun y1 => (some (y1))
set_option maxHeartbeats 4000000 in
set_option maxRecDepth 20000 in
theorem t_X5_isSetting (F : Nat) (v0 : Int32) (x : Bool) (hR : s_X5_isSetting F v0 = some x) : ev_A yX5_isSetting mm_X5_isSetting none [.int v0] (([] : List ev_E)) (fun r w => r = some (.int (ev_b x)) ∧ w = ([] : List ev_E)) := by
  unfold s_X5_isSetting at hR
  refine ev_start ok_X5_isSetting (by decide +kernel) rfl rfl (Nat.le_of_ble_eq_true rfl) ?_
  refine ev_run (cs := []) (pc' := 3) (L' := [some (.int v0)]) (st' := [.int 4, .int 0, .int v0]) (w' := ([] : List ev_E)) [] 3 (by with_unfolding_all rfl) trivial ?_
  obtain ⟨y1, h1, hR⟩ := lf_b hR
  refine ev_callS1 0 (t_X5_within F v0 0 4 _ h1) cs_X5_within ml_X5_46 rfl rfl rfl (Nat.le_of_ble_eq_true rfl) (by with_unfolding_all rfl) (Nat.le_of_ble_eq_true rfl) ⟨Nat.le_of_ble_eq_true rfl, Nat.le_of_ble_eq_true rfl⟩ ⟨Nat.le_refl _, Nat.le_refl _⟩ ?_ ?_
  · rintro r w ⟨rfl, rfl⟩; rfl
  rintro r w ⟨rfl, rfl⟩
  refine ev_nx (pc' := 6) (st' := [.int (ev_b y1)]) (w' := ([] : List ev_E)) rfl rfl (by with_unfolding_all rfl) rfl rfl ?_
  cases hR
  exact ev_exit ⟨_, _, rfl, ⟨rfl, Or.inr ⟨rfl, ev_bn _⟩⟩, ⟨rfl, rfl⟩, Nat.le_refl _, Nat.le_refl _⟩

def s_X5_set_b48 (F : Nat) (u : S_X5) (v1 : Int32) (v2 : Int32) (p1 : Int32) : Option (Int32 × S_X5) := if p1 ≤ 0 then ((s_X5_save F (m_X5_thrown p1 u)).bind fun y1 => (if lf_ix (8 + v1) 20377 then (if lf_ix (8 + v1) 20377 then (some ((a_X5_state y1) ((8 + v1).toNatClampNeg), m_X5_state (upd (a_X5_state y1) ((8 + v1).toNatClampNeg) v2) y1)) else none) else none)) else (some (0, m_X5_thrown p1 u))
set_option maxHeartbeats 4000000 in
set_option maxRecDepth 20000 in
theorem t_X5_set_b48 (F : Nat) (u : S_X5) (v1 : Int32) (v2 : Int32) (p1 : Int32) (x : (Int32 × S_X5))  (hR : s_X5_set_b48 F u v1 v2 p1 = some x) : ev_V mm_X5_set none (ev_XR mm_X5_set (fun r w => r = some (.int x.1) ∧ w = W_X5 x.2)) 48 [some (.ref 0), some (.int v1), some (.int v2), none, none] [.int p1, .ref 0] (W_X5 u) 0 0 := by
  unfold s_X5_set_b48 at hR
  refine ev_run (cs := []) (pc' := 55) (L' := [some (.ref 0), some (.int v1), some (.int v2), none, none]) (st' := [.int p1]) (w' := W_X5 (m_X5_thrown p1 u)) [] 3 (by with_unfolding_all rfl) trivial ?_
  refine ev_br rfl rfl (fun h1 => ?_) (fun h1 => ?_)
  · replace hR := lf_t h1 hR
    refine ev_run (cs := []) (pc' := 61) (L' := [some (.ref 0), some (.int v1), some (.int v2), none, none]) (st' := [.ref 0]) (w' := W_X5 (m_X5_thrown p1 u)) [] 1 (by with_unfolding_all rfl) trivial ?_
    obtain ⟨y1, h2, hR⟩ := lf_b hR
    refine ev_callV1 0 (t_X5_save F (m_X5_thrown p1 u) _ h2) cv_X5_save ml_X5_108 rfl rfl rfl (Nat.le_of_ble_eq_true rfl) (by with_unfolding_all rfl) (Nat.le_of_ble_eq_true rfl) ⟨Nat.le_of_ble_eq_true rfl, Nat.le_of_ble_eq_true rfl⟩ ⟨Nat.le_refl _, Nat.le_refl _⟩ ?_ ?_
    · rintro r w ⟨rfl, rfl⟩; rfl
    rintro r w ⟨rfl, rfl⟩
    refine ev_nx (pc' := 64) (st' := []) (w' := W_X5 y1) rfl rfl (by with_unfolding_all rfl) rfl rfl ?_
    obtain ⟨h3, hR⟩ := lf_g hR
    refine ev_run (cs := [lf_ix (8 + v1) 20377]) (pc' := 83) (L' := [some (.ref 0), some (.int v1), some (.int v2), none, some (.int ((a_X5_state y1) ((8 + v1).toNatClampNeg)))]) (st' := [.int (8 + v1), .ref 1]) (w' := W_X5 y1) [] 12 (by with_unfolding_all rfl) (h3) ?_
    obtain ⟨h4, hR⟩ := lf_g hR
    refine ev_run (cs := [lf_ix (8 + v1) 20377]) (pc' := 87) (L' := [some (.ref 0), some (.int v1), some (.int v2), none, some (.int ((a_X5_state y1) ((8 + v1).toNatClampNeg)))]) (st' := [.int ((a_X5_state y1) ((8 + v1).toNatClampNeg))]) (w' := W_X5 (m_X5_state (upd (a_X5_state y1) ((8 + v1).toNatClampNeg) v2) y1)) [] 3 (by with_unfolding_all rfl) (h4) ?_
    cases hR
    exact ev_exit ⟨_, _, rfl, ⟨rfl, Or.inl rfl⟩, ⟨rfl, rfl⟩, Nat.le_refl _, Nat.le_refl _⟩
  · replace hR := lf_f h1 hR
    refine ev_run (cs := []) (pc' := 59) (L' := [some (.ref 0), some (.int v1), some (.int v2), none, none]) (st' := [.int 0]) (w' := W_X5 (m_X5_thrown p1 u)) [] 1 (by with_unfolding_all rfl) trivial ?_
    cases hR
    exact ev_exit ⟨_, _, rfl, ⟨rfl, Or.inl rfl⟩, ⟨rfl, rfl⟩, Nat.le_refl _, Nat.le_refl _⟩

def s_X5_set_b21 (F : Nat) (u : S_X5) (v1 : Int32) (v2 : Int32) (p0 : Int32) : Option (Int32 × S_X5) := (s_X5_isSetting F v1).bind fun y1 => (if y1 then ((s_X5_within F v2 0 p0).bind fun y2 => (if y2 then (s_X5_set_b48 F u v1 v2 0) else (s_X5_set_b48 F u v1 v2 2))) else (s_X5_set_b48 F u v1 v2 1))
set_option maxHeartbeats 4000000 in
set_option maxRecDepth 20000 in
theorem t_X5_set_b21 (F : Nat) (u : S_X5) (v1 : Int32) (v2 : Int32) (p0 : Int32) (x : (Int32 × S_X5))  (hR : s_X5_set_b21 F u v1 v2 p0 = some x) : ev_V mm_X5_set none (ev_XR mm_X5_set (fun r w => r = some (.int x.1) ∧ w = W_X5 x.2)) 21 [some (.ref 0), some (.int v1), some (.int v2), none, none] [.int p0] (W_X5 u) 0 0 := by
  unfold s_X5_set_b21 at hR
  refine ev_run (cs := []) (pc' := 24) (L' := [some (.ref 0), some (.int v1), some (.int v2), some (.int p0), none]) (st' := [.int v1, .ref 0]) (w' := W_X5 u) [] 3 (by with_unfolding_all rfl) trivial ?_
  obtain ⟨y1, h1, hR⟩ := lf_b hR
  refine ev_callS1 0 (t_X5_isSetting F v1 _ h1) cs_X5_isSetting ml_X5_141 rfl rfl rfl (Nat.le_of_ble_eq_true rfl) (by with_unfolding_all rfl) (Nat.le_of_ble_eq_true rfl) ⟨Nat.le_of_ble_eq_true rfl, Nat.le_of_ble_eq_true rfl⟩ ⟨Nat.le_refl _, Nat.le_refl _⟩ ?_ ?_
  · rintro r w ⟨rfl, rfl⟩; rfl
  rintro r w ⟨rfl, rfl⟩
  refine ev_nx (pc' := 27) (st' := [.int (ev_b y1), .ref 0]) (w' := W_X5 u) rfl rfl (by with_unfolding_all rfl) rfl rfl ?_
  refine ev_br rfl rfl (fun h2 => ?_) (fun h2 => ?_)
  · replace hR := lf_z1 h2 hR
    refine ev_run (cs := []) (pc' := 37) (L' := [some (.ref 0), some (.int v1), some (.int v2), some (.int p0), none]) (st' := [.int p0, .int 0, .int v2, .ref 0]) (w' := W_X5 u) [] 3 (by with_unfolding_all rfl) trivial ?_
    obtain ⟨y2, h3, hR⟩ := lf_b hR
    refine ev_callS1 0 (t_X5_within F v2 0 p0 _ h3) cs_X5_within ml_X5_46 rfl rfl rfl (Nat.le_of_ble_eq_true rfl) (by with_unfolding_all rfl) (Nat.le_of_ble_eq_true rfl) ⟨Nat.le_of_ble_eq_true rfl, Nat.le_of_ble_eq_true rfl⟩ ⟨Nat.le_refl _, Nat.le_refl _⟩ ?_ ?_
    · rintro r w ⟨rfl, rfl⟩; rfl
    rintro r w ⟨rfl, rfl⟩
    refine ev_nx (pc' := 40) (st' := [.int (ev_b y2), .ref 0]) (w' := W_X5 u) rfl rfl (by with_unfolding_all rfl) rfl rfl ?_
    refine ev_br rfl rfl (fun h4 => ?_) (fun h4 => ?_)
    · replace hR := lf_z0 h4 hR
      refine ev_run (cs := []) (pc' := 48) (L' := [some (.ref 0), some (.int v1), some (.int v2), some (.int p0), none]) (st' := [.int 2, .ref 0]) (w' := W_X5 u) [] 1 (by with_unfolding_all rfl) trivial ?_
      exact ev_to2 (t_X5_set_b48 F u v1 v2 2 _ hR) ⟨rfl, rfl, rfl, trivial⟩ rfl rfl
    · replace hR := lf_z1 h4 hR
      refine ev_run (cs := []) (pc' := 48) (L' := [some (.ref 0), some (.int v1), some (.int v2), some (.int p0), none]) (st' := [.int 0, .ref 0]) (w' := W_X5 u) [] 2 (by with_unfolding_all rfl) trivial ?_
      exact ev_to2 (t_X5_set_b48 F u v1 v2 0 _ hR) ⟨rfl, rfl, rfl, trivial⟩ rfl rfl
  · replace hR := lf_z0 h2 hR
    refine ev_run (cs := []) (pc' := 48) (L' := [some (.ref 0), some (.int v1), some (.int v2), some (.int p0), none]) (st' := [.int 1, .ref 0]) (w' := W_X5 u) [] 2 (by with_unfolding_all rfl) trivial ?_
    exact ev_to2 (t_X5_set_b48 F u v1 v2 1 _ hR) ⟨rfl, rfl, rfl, trivial⟩ rfl rfl

def s_X5_set (F : Nat) (u : S_X5) (v1 : Int32) (v2 : Int32) : Option (Int32 × S_X5) := if 3 ≤ v1 then (if v1 = 3 then (s_X5_set_b21 F u v1 v2 1) else (s_X5_set_b21 F u v1 v2 50)) else (s_X5_set_b21 F u v1 v2 20)
set_option maxHeartbeats 4000000 in
set_option maxRecDepth 20000 in
theorem t_X5_set (F : Nat) (u : S_X5) (v1 : Int32) (v2 : Int32) (x : (Int32 × S_X5)) (hR : s_X5_set F u v1 v2 = some x) : ev_A yX5_set mm_X5_set none [.ref 0, .int v1, .int v2] (W_X5 u) (fun r w => r = some (.int x.1) ∧ w = W_X5 x.2) := by
  unfold s_X5_set at hR
  refine ev_start ok_X5_set (by decide +kernel) rfl rfl (Nat.le_of_ble_eq_true rfl) ?_
  refine ev_run (cs := []) (pc' := 2) (L' := [some (.ref 0), some (.int v1), some (.int v2), none, none]) (st' := [.int 3, .int v1]) (w' := W_X5 u) [] 2 (by with_unfolding_all rfl) trivial ?_
  refine ev_br rfl rfl (fun h1 => ?_) (fun h1 => ?_)
  · replace hR := lf_t h1 hR
    refine ev_run (cs := []) (pc' := 12) (L' := [some (.ref 0), some (.int v1), some (.int v2), none, none]) (st' := [.int 3, .int v1]) (w' := W_X5 u) [] 2 (by with_unfolding_all rfl) trivial ?_
    refine ev_br rfl rfl (fun h2 => ?_) (fun h2 => ?_)
    · replace hR := lf_f h2 hR
      refine ev_run (cs := []) (pc' := 21) (L' := [some (.ref 0), some (.int v1), some (.int v2), none, none]) (st' := [.int 50]) (w' := W_X5 u) [] 1 (by with_unfolding_all rfl) trivial ?_
      exact ev_to2 (t_X5_set_b21 F u v1 v2 50 _ hR) ⟨rfl, rfl, rfl, trivial⟩ rfl rfl
    · replace hR := lf_t h2 hR
      refine ev_run (cs := []) (pc' := 21) (L' := [some (.ref 0), some (.int v1), some (.int v2), none, none]) (st' := [.int 1]) (w' := W_X5 u) [] 2 (by with_unfolding_all rfl) trivial ?_
      exact ev_to2 (t_X5_set_b21 F u v1 v2 1 _ hR) ⟨rfl, rfl, rfl, trivial⟩ rfl rfl
  · replace hR := lf_f h1 hR
    refine ev_run (cs := []) (pc' := 21) (L' := [some (.ref 0), some (.int v1), some (.int v2), none, none]) (st' := [.int 20]) (w' := W_X5 u) [] 2 (by with_unfolding_all rfl) trivial ?_
    exact ev_to2 (t_X5_set_b21 F u v1 v2 20 _ hR) ⟨rfl, rfl, rfl, trivial⟩ rfl rfl

def s_X5_spread_p6_l23 (F : Nat) (v3 : Int32) (k2 : S_X5 → Int32 → Option S_X5) (k10 : S_X5 → Int32 → Int32 → Option S_X5) : Nat → S_X5 → Int32 → Int32 → Option S_X5
  | 0 => fun _ _ _ => none
  | n + 1 => fun u v2 v4 => if 4 ≤ v4 then (k10 u v2 (v3 + 1)) else (if lf_ix v3 24 then (if ((a_X5_isInSet u) v3.toNatClampNeg) = 1 then ((s_X5_lives F u v3).bind fun y1 => (if y1 then ((s_X5_slotOf F u v3 v4).bind fun y2 => (if y2 = (-1) then (s_X5_spread_p6_l23 F v3 k2 k10 n u v2 (v4 + 1)) else (if lf_ix y2 24 then (if ((a_X5_isInSet u) y2.toNatClampNeg) = 0 then (if lf_ix y2 24 then (s_X5_spread_p6_l23 F v3 k2 k10 n (m_X5_isInSet (upd (a_X5_isInSet u) y2.toNatClampNeg 1) u) 1 (v4 + 1)) else none) else (s_X5_spread_p6_l23 F v3 k2 k10 n u v2 (v4 + 1))) else none))) else (k10 u v2 (v3 + 1)))) else (k10 u v2 (v3 + 1))) else none)
theorem e_X5_spread_p6_l23 (F : Nat) (v3 : Int32) (k2 : S_X5 → Int32 → Option S_X5) (k10 : S_X5 → Int32 → Int32 → Option S_X5) (n : Nat) (u : S_X5) (v2 : Int32) (v4 : Int32) : s_X5_spread_p6_l23 F v3 k2 k10 (n + 1) u v2 v4 = if 4 ≤ v4 then (k10 u v2 (v3 + 1)) else (if lf_ix v3 24 then (if ((a_X5_isInSet u) v3.toNatClampNeg) = 1 then ((s_X5_lives F u v3).bind fun y1 => (if y1 then ((s_X5_slotOf F u v3 v4).bind fun y2 => (if y2 = (-1) then (s_X5_spread_p6_l23 F v3 k2 k10 n u v2 (v4 + 1)) else (if lf_ix y2 24 then (if ((a_X5_isInSet u) y2.toNatClampNeg) = 0 then (if lf_ix y2 24 then (s_X5_spread_p6_l23 F v3 k2 k10 n (m_X5_isInSet (upd (a_X5_isInSet u) y2.toNatClampNeg 1) u) 1 (v4 + 1)) else none) else (s_X5_spread_p6_l23 F v3 k2 k10 n u v2 (v4 + 1))) else none))) else (k10 u v2 (v3 + 1)))) else (k10 u v2 (v3 + 1))) else none) := rfl
set_option maxHeartbeats 4000000 in
set_option maxRecDepth 20000 in
theorem t_X5_spread_p6_l23 (F : Nat) (v3 : Int32) (k2 : S_X5 → Int32 → Option S_X5) (k10 : S_X5 → Int32 → Int32 → Option S_X5) (x : S_X5) (hk2 : ∀ (u : S_X5) (v2 : Int32), k2 u v2 = some x → ev_V mm_X5_spread none (ev_XR mm_X5_spread (fun r w => r = none ∧ w = W_X5 x)) 2 [some (.ref 0), some (.ref 6), some (.int v2), none, none, none] [] (W_X5 u) 0 0) (hk10 : ∀ (u : S_X5) (v2 : Int32) (v3 : Int32), k10 u v2 v3 = some x → ev_V mm_X5_spread none (ev_XR mm_X5_spread (fun r w => r = none ∧ w = W_X5 x)) 10 [some (.ref 0), some (.ref 6), some (.int v2), some (.int v3), none, none] [] (W_X5 u) 0 0) : ∀ (n : Nat) (u : S_X5) (v2 : Int32) (v4 : Int32), s_X5_spread_p6_l23 F v3 k2 k10 n u v2 v4 = some x → ev_V mm_X5_spread none (ev_XR mm_X5_spread (fun r w => r = none ∧ w = W_X5 x)) 23 [some (.ref 0), some (.ref 6), some (.int v2), some (.int v3), some (.int v4), none] [] (W_X5 u) 0 0 := by
  intro n
  induction n with
  | zero => intro u v2 v4 hR; cases hR
  | succ n hk23 =>
    intro u v2 v4 hR
    unfold s_X5_spread_p6_l23 at hR
    refine ev_run (cs := []) (pc' := 26) (L' := [some (.ref 0), some (.ref 6), some (.int v2), some (.int v3), some (.int v4), none]) (st' := [.int 4, .int v4]) (w' := W_X5 u) [] 2 (by with_unfolding_all rfl) trivial ?_
    refine ev_br rfl rfl (fun h1 => ?_) (fun h1 => ?_)
    · replace hR := lf_t h1 hR
      refine ev_run (cs := []) (pc' := 10) (L' := [some (.ref 0), some (.ref 6), some (.int v2), some (.int (v3 + 1)), some (.int v4), none]) (st' := []) (w' := W_X5 u) [] 2 (by with_unfolding_all rfl) trivial ?_
      exact ev_to2 (hk10 _ _ _ hR) ⟨rfl, rfl, rfl, rfl, trivial⟩ rfl rfl
    · replace hR := lf_f h1 hR
      obtain ⟨h2, hR⟩ := lf_g hR
      refine ev_run (cs := [lf_ix v3 24]) (pc' := 33) (L' := [some (.ref 0), some (.ref 6), some (.int v2), some (.int v3), some (.int v4), none]) (st' := [.int 1, .int ((a_X5_isInSet u) v3.toNatClampNeg)]) (w' := W_X5 u) [] 4 (by with_unfolding_all rfl) (h2) ?_
      refine ev_br rfl rfl (fun h3 => ?_) (fun h3 => ?_)
      · replace hR := lf_f h3 hR
        refine ev_run (cs := []) (pc' := 10) (L' := [some (.ref 0), some (.ref 6), some (.int v2), some (.int (v3 + 1)), some (.int v4), none]) (st' := []) (w' := W_X5 u) [] 2 (by with_unfolding_all rfl) trivial ?_
        exact ev_to2 (hk10 _ _ _ hR) ⟨rfl, rfl, rfl, rfl, trivial⟩ rfl rfl
      · replace hR := lf_t h3 hR
        refine ev_run (cs := []) (pc' := 38) (L' := [some (.ref 0), some (.ref 6), some (.int v2), some (.int v3), some (.int v4), none]) (st' := [.int v3, .ref 0]) (w' := W_X5 u) [] 2 (by with_unfolding_all rfl) trivial ?_
        obtain ⟨y1, h4, hR⟩ := lf_b hR
        refine ev_callV1 0 (t_X5_lives F u v3 _ h4) cv_X5_lives ml_X5_54 rfl rfl rfl (Nat.le_of_ble_eq_true rfl) (by with_unfolding_all rfl) (Nat.le_of_ble_eq_true rfl) ⟨Nat.le_of_ble_eq_true rfl, Nat.le_of_ble_eq_true rfl⟩ ⟨Nat.le_refl _, Nat.le_refl _⟩ ?_ ?_
        · rintro r w ⟨rfl, rfl⟩; rfl
        rintro r w ⟨rfl, rfl⟩
        refine ev_nx (pc' := 41) (st' := [.int (ev_b y1)]) (w' := W_X5 u) rfl rfl (by with_unfolding_all rfl) rfl rfl ?_
        refine ev_br rfl rfl (fun h5 => ?_) (fun h5 => ?_)
        · replace hR := lf_z0 h5 hR
          refine ev_run (cs := []) (pc' := 10) (L' := [some (.ref 0), some (.ref 6), some (.int v2), some (.int (v3 + 1)), some (.int v4), none]) (st' := []) (w' := W_X5 u) [] 2 (by with_unfolding_all rfl) trivial ?_
          exact ev_to2 (hk10 _ _ _ hR) ⟨rfl, rfl, rfl, rfl, trivial⟩ rfl rfl
        · replace hR := lf_z1 h5 hR
          refine ev_run (cs := []) (pc' := 48) (L' := [some (.ref 0), some (.ref 6), some (.int v2), some (.int v3), some (.int v4), none]) (st' := [.int v4, .int v3, .ref 0]) (w' := W_X5 u) [] 3 (by with_unfolding_all rfl) trivial ?_
          obtain ⟨y2, h6, hR⟩ := lf_b hR
          refine ev_callV1 0 (t_X5_slotOf F u v3 v4 _ h6) cv_X5_slotOf ml_X5_58 rfl rfl rfl (Nat.le_of_ble_eq_true rfl) (by with_unfolding_all rfl) (Nat.le_of_ble_eq_true rfl) ⟨Nat.le_of_ble_eq_true rfl, Nat.le_of_ble_eq_true rfl⟩ ⟨Nat.le_refl _, Nat.le_refl _⟩ ?_ ?_
          · rintro r w ⟨rfl, rfl⟩; rfl
          rintro r w ⟨rfl, rfl⟩
          refine ev_nx (pc' := 51) (st' := [.int y2]) (w' := W_X5 u) rfl rfl (by with_unfolding_all rfl) rfl rfl ?_
          refine ev_run (cs := []) (pc' := 56) (L' := [some (.ref 0), some (.ref 6), some (.int v2), some (.int v3), some (.int v4), some (.int y2)]) (st' := [.int (-1), .int y2]) (w' := W_X5 u) [] 3 (by with_unfolding_all rfl) trivial ?_
          refine ev_br rfl rfl (fun h7 => ?_) (fun h7 => ?_)
          · replace hR := lf_t h7 hR
            refine ev_run (cs := []) (pc' := 23) (L' := [some (.ref 0), some (.ref 6), some (.int v2), some (.int v3), some (.int (v4 + 1)), some (.int y2)]) (st' := []) (w' := W_X5 u) [] 2 (by with_unfolding_all rfl) trivial ?_
            exact ev_to2 (hk23 _ _ _ hR) ⟨rfl, rfl, rfl, rfl, rfl, trivial⟩ rfl rfl
          · replace hR := lf_f h7 hR
            obtain ⟨h8, hR⟩ := lf_g hR
            refine ev_run (cs := [lf_ix y2 24]) (pc' := 63) (L' := [some (.ref 0), some (.ref 6), some (.int v2), some (.int v3), some (.int v4), some (.int y2)]) (st' := [.int ((a_X5_isInSet u) y2.toNatClampNeg)]) (w' := W_X5 u) [] 3 (by with_unfolding_all rfl) (h8) ?_
            refine ev_br rfl rfl (fun h9 => ?_) (fun h9 => ?_)
            · replace hR := lf_f h9 hR
              refine ev_run (cs := []) (pc' := 23) (L' := [some (.ref 0), some (.ref 6), some (.int v2), some (.int v3), some (.int (v4 + 1)), some (.int y2)]) (st' := []) (w' := W_X5 u) [] 2 (by with_unfolding_all rfl) trivial ?_
              exact ev_to2 (hk23 _ _ _ hR) ⟨rfl, rfl, rfl, rfl, rfl, trivial⟩ rfl rfl
            · replace hR := lf_t h9 hR
              obtain ⟨h10, hR⟩ := lf_g hR
              refine ev_run (cs := [lf_ix y2 24]) (pc' := 23) (L' := [some (.ref 0), some (.ref 6), some (.int 1), some (.int v3), some (.int (v4 + 1)), some (.int y2)]) (st' := []) (w' := W_X5 (m_X5_isInSet (upd (a_X5_isInSet u) y2.toNatClampNeg 1) u)) [] 8 (by with_unfolding_all rfl) (h10) ?_
              exact ev_to2 (hk23 _ _ _ hR) ⟨rfl, rfl, rfl, rfl, rfl, trivial⟩ rfl rfl

def s_X5_spread_p6_l10 (F : Nat) (k2 : S_X5 → Int32 → Option S_X5) : Nat → S_X5 → Int32 → Int32 → Option S_X5
  | 0 => fun _ _ _ => none
  | n + 1 => fun u v2 v3 => if ((a_X5_state u) (1 : Int32).toNatClampNeg) ≤ v3 then (k2 u v2) else (s_X5_spread_p6_l23 F v3 k2 (s_X5_spread_p6_l10 F k2 n) F u v2 0)
theorem e_X5_spread_p6_l10 (F : Nat) (k2 : S_X5 → Int32 → Option S_X5) (n : Nat) (u : S_X5) (v2 : Int32) (v3 : Int32) : s_X5_spread_p6_l10 F k2 (n + 1) u v2 v3 = if ((a_X5_state u) (1 : Int32).toNatClampNeg) ≤ v3 then (k2 u v2) else (s_X5_spread_p6_l23 F v3 k2 (s_X5_spread_p6_l10 F k2 n) F u v2 0) := rfl
set_option maxHeartbeats 4000000 in
set_option maxRecDepth 20000 in
theorem t_X5_spread_p6_l10 (F : Nat) (k2 : S_X5 → Int32 → Option S_X5) (x : S_X5) (hk2 : ∀ (u : S_X5) (v2 : Int32), k2 u v2 = some x → ev_V mm_X5_spread none (ev_XR mm_X5_spread (fun r w => r = none ∧ w = W_X5 x)) 2 [some (.ref 0), some (.ref 6), some (.int v2), none, none, none] [] (W_X5 u) 0 0) : ∀ (n : Nat) (u : S_X5) (v2 : Int32) (v3 : Int32), s_X5_spread_p6_l10 F k2 n u v2 v3 = some x → ev_V mm_X5_spread none (ev_XR mm_X5_spread (fun r w => r = none ∧ w = W_X5 x)) 10 [some (.ref 0), some (.ref 6), some (.int v2), some (.int v3), none, none] [] (W_X5 u) 0 0 := by
  intro n
  induction n with
  | zero => intro u v2 v3 hR; cases hR
  | succ n hk10 =>
    intro u v2 v3 hR
    unfold s_X5_spread_p6_l10 at hR
    refine ev_run (cs := [lf_ix 1 20377]) (pc' := 17) (L' := [some (.ref 0), some (.ref 6), some (.int v2), some (.int v3), none, none]) (st' := [.int ((a_X5_state u) (1 : Int32).toNatClampNeg), .int v3]) (w' := W_X5 u) [] 5 (by with_unfolding_all rfl) (by show ¬ _; decide) ?_
    refine ev_br rfl rfl (fun h1 => ?_) (fun h1 => ?_)
    · replace hR := lf_t h1 hR
      refine ev_run (cs := []) (pc' := 2) (L' := [some (.ref 0), some (.ref 6), some (.int v2), some (.int v3), none, none]) (st' := []) (w' := W_X5 u) [] 1 (by with_unfolding_all rfl) trivial ?_
      exact ev_to2 (hk2 _ _ hR) ⟨rfl, rfl, rfl, trivial⟩ rfl rfl
    · replace hR := lf_f h1 hR
      refine ev_run (cs := []) (pc' := 23) (L' := [some (.ref 0), some (.ref 6), some (.int v2), some (.int v3), some (.int 0), none]) (st' := []) (w' := W_X5 u) [] 2 (by with_unfolding_all rfl) trivial ?_
      exact ev_to2 (t_X5_spread_p6_l23 F v3 k2 (s_X5_spread_p6_l10 F k2 n) _ hk2 hk10 F u v2 0 hR) ⟨rfl, rfl, rfl, rfl, rfl, trivial⟩ rfl rfl

def s_X5_spread_p6_l2 (F : Nat) : Nat → S_X5 → Int32 → Option S_X5
  | 0 => fun _ _ => none
  | n + 1 => fun u v2 => if v2 = 0 then (some (u)) else (s_X5_spread_p6_l10 F (s_X5_spread_p6_l2 F n) F u 0 0)
theorem e_X5_spread_p6_l2 (F : Nat) (n : Nat) (u : S_X5) (v2 : Int32) : s_X5_spread_p6_l2 F (n + 1) u v2 = if v2 = 0 then (some (u)) else (s_X5_spread_p6_l10 F (s_X5_spread_p6_l2 F n) F u 0 0) := rfl
set_option maxHeartbeats 4000000 in
set_option maxRecDepth 20000 in
theorem t_X5_spread_p6_l2 (F : Nat) (x : S_X5)  : ∀ (n : Nat) (u : S_X5) (v2 : Int32), s_X5_spread_p6_l2 F n u v2 = some x → ev_V mm_X5_spread none (ev_XR mm_X5_spread (fun r w => r = none ∧ w = W_X5 x)) 2 [some (.ref 0), some (.ref 6), some (.int v2), none, none, none] [] (W_X5 u) 0 0 := by
  intro n
  induction n with
  | zero => intro u v2 hR; cases hR
  | succ n hk2 =>
    intro u v2 hR
    unfold s_X5_spread_p6_l2 at hR
    refine ev_run (cs := []) (pc' := 3) (L' := [some (.ref 0), some (.ref 6), some (.int v2), none, none, none]) (st' := [.int v2]) (w' := W_X5 u) [] 1 (by with_unfolding_all rfl) trivial ?_
    refine ev_br rfl rfl (fun h1 => ?_) (fun h1 => ?_)
    · replace hR := lf_t h1 hR
      cases hR
      exact ev_exit ⟨_, _, rfl, ⟨rfl, rfl⟩, ⟨rfl, rfl⟩, Nat.le_refl _, Nat.le_refl _⟩
    · replace hR := lf_f h1 hR
      refine ev_run (cs := []) (pc' := 10) (L' := [some (.ref 0), some (.ref 6), some (.int 0), some (.int 0), none, none]) (st' := []) (w' := W_X5 u) [] 4 (by with_unfolding_all rfl) trivial ?_
      exact ev_to2 (t_X5_spread_p6_l10 F (s_X5_spread_p6_l2 F n) _ hk2 F u 0 0 hR) ⟨rfl, rfl, rfl, rfl, trivial⟩ rfl rfl

def s_X5_spread_p6 (F : Nat) (u : S_X5) : Option S_X5 := s_X5_spread_p6_l2 F F u 1
set_option maxHeartbeats 4000000 in
set_option maxRecDepth 20000 in
theorem t_X5_spread_p6 (F : Nat) (u : S_X5) (x : S_X5) (hR : s_X5_spread_p6 F u = some x) : ev_A yX5_spread mm_X5_spread none [.ref 0, .ref 6] (W_X5 u) (fun r w => r = none ∧ w = W_X5 x) := by
  unfold s_X5_spread_p6 at hR
  refine ev_start ok_X5_spread (by decide +kernel) rfl rfl (Nat.le_of_ble_eq_true rfl) ?_
  refine ev_run (cs := []) (pc' := 2) (L' := [some (.ref 0), some (.ref 6), some (.int 1), none, none, none]) (st' := []) (w' := W_X5 u) [] 2 (by with_unfolding_all rfl) trivial ?_
  exact ev_to2 (t_X5_spread_p6_l2 F _ F u 1 hR) ⟨rfl, rfl, rfl, trivial⟩ rfl rfl

def s_X5_findSet_l26 (F : Nat) (u : S_X5) : Nat → Int32 → Int32 → Option (Bool × S_X5)
  | 0 => fun _ _ => none
  | n + 1 => fun v2 v3 => if ((a_X5_state u) (3 : Int32).toNatClampNeg) ≤ v3 then (if v2 = 0 then some (false, u) else if v2 = 1 then some (true, u) else none) else ((s_X5_reportPart F u v3 1).bind fun y1 => (if v2 = 0 then (if lf_ix y1 24 then (if ((a_X5_isInSet u) y1.toNatClampNeg) = 1 then ((s_X5_lives F u y1).bind fun y2 => (if y2 then (s_X5_findSet_l26 F u n 1 (v3 + 1)) else (s_X5_findSet_l26 F u n 0 (v3 + 1)))) else (s_X5_findSet_l26 F u n 0 (v3 + 1))) else none) else (s_X5_findSet_l26 F u n 1 (v3 + 1))))
theorem e_X5_findSet_l26 (F : Nat) (u : S_X5) (n : Nat) (v2 : Int32) (v3 : Int32) : s_X5_findSet_l26 F u (n + 1) v2 v3 = if ((a_X5_state u) (3 : Int32).toNatClampNeg) ≤ v3 then (if v2 = 0 then some (false, u) else if v2 = 1 then some (true, u) else none) else ((s_X5_reportPart F u v3 1).bind fun y1 => (if v2 = 0 then (if lf_ix y1 24 then (if ((a_X5_isInSet u) y1.toNatClampNeg) = 1 then ((s_X5_lives F u y1).bind fun y2 => (if y2 then (s_X5_findSet_l26 F u n 1 (v3 + 1)) else (s_X5_findSet_l26 F u n 0 (v3 + 1)))) else (s_X5_findSet_l26 F u n 0 (v3 + 1))) else none) else (s_X5_findSet_l26 F u n 1 (v3 + 1)))) := rfl
set_option maxHeartbeats 4000000 in
set_option maxRecDepth 20000 in
theorem t_X5_findSet_l26 (F : Nat) (u : S_X5) (x : (Bool × S_X5))  : ∀ (n : Nat) (v2 : Int32) (v3 : Int32), s_X5_findSet_l26 F u n v2 v3 = some x → ev_V mm_X5_findSet none (ev_XR mm_X5_findSet (fun r w => r = some (.int (ev_b x.1)) ∧ w = W_X5 x.2)) 26 [some (.ref 0), none, some (.int v2), some (.int v3), none] [] (W_X5 u) 0 0 := by
  intro n
  induction n with
  | zero => intro v2 v3 hR; cases hR
  | succ n hk26 =>
    intro v2 v3 hR
    unfold s_X5_findSet_l26 at hR
    refine ev_run (cs := [lf_ix 3 20377]) (pc' := 33) (L' := [some (.ref 0), none, some (.int v2), some (.int v3), none]) (st' := [.int ((a_X5_state u) (3 : Int32).toNatClampNeg), .int v3]) (w' := W_X5 u) [] 5 (by with_unfolding_all rfl) (by show ¬ _; decide) ?_
    refine ev_br rfl rfl (fun h1 => ?_) (fun h1 => ?_)
    · replace hR := lf_t h1 hR
      refine ev_run (cs := []) (pc' := 81) (L' := [some (.ref 0), none, some (.int v2), some (.int v3), none]) (st' := [.int v2]) (w' := W_X5 u) [] 1 (by with_unfolding_all rfl) trivial ?_
      by_cases h0 : v2 = 0
      · replace hR := lf_t h0 hR
        cases hR
        exact ev_lit h0 (ev_exit ⟨_, _, rfl, ⟨rfl, Or.inr ⟨rfl, rfl⟩⟩, ⟨rfl, rfl⟩, Nat.le_refl _, Nat.le_refl _⟩)
      replace hR := lf_f h0 hR
      by_cases h1 : v2 = 1
      · replace hR := lf_t h1 hR
        cases hR
        exact ev_lit h1 (ev_exit ⟨_, _, rfl, ⟨rfl, Or.inr ⟨rfl, rfl⟩⟩, ⟨rfl, rfl⟩, Nat.le_refl _, Nat.le_refl _⟩)
      exact absurd (lf_f h1 hR) (by intro h; cases h)
    · replace hR := lf_f h1 hR
      refine ev_run (cs := []) (pc' := 39) (L' := [some (.ref 0), none, some (.int v2), some (.int v3), none]) (st' := [.int 1, .int v3, .ref 0]) (w' := W_X5 u) [] 3 (by with_unfolding_all rfl) trivial ?_
      obtain ⟨y1, h2, hR⟩ := lf_b hR
      refine ev_callV1 0 (t_X5_reportPart F u v3 1 _ h2) cv_X5_reportPart ml_X5_61 rfl rfl rfl (Nat.le_of_ble_eq_true rfl) (by with_unfolding_all rfl) (Nat.le_of_ble_eq_true rfl) ⟨Nat.le_of_ble_eq_true rfl, Nat.le_of_ble_eq_true rfl⟩ ⟨Nat.le_refl _, Nat.le_refl _⟩ ?_ ?_
      · rintro r w ⟨rfl, rfl⟩; rfl
      rintro r w ⟨rfl, rfl⟩
      refine ev_nx (pc' := 42) (st' := [.int y1]) (w' := W_X5 u) rfl rfl (by with_unfolding_all rfl) rfl rfl ?_
      refine ev_run (cs := []) (pc' := 45) (L' := [some (.ref 0), none, some (.int v2), some (.int v3), some (.int y1)]) (st' := [.int v2]) (w' := W_X5 u) [] 2 (by with_unfolding_all rfl) trivial ?_
      refine ev_br rfl rfl (fun h3 => ?_) (fun h3 => ?_)
      · replace hR := lf_f h3 hR
        refine ev_run (cs := []) (pc' := 26) (L' := [some (.ref 0), none, some (.int 1), some (.int (v3 + 1)), some (.int y1)]) (st' := []) (w' := W_X5 u) [] 5 (by with_unfolding_all rfl) trivial ?_
        exact ev_to2 (hk26 _ _ hR) ⟨rfl, rfl, rfl, trivial⟩ rfl rfl
      · replace hR := lf_t h3 hR
        obtain ⟨h4, hR⟩ := lf_g hR
        refine ev_run (cs := [lf_ix y1 24]) (pc' := 56) (L' := [some (.ref 0), none, some (.int v2), some (.int v3), some (.int y1)]) (st' := [.int 1, .int ((a_X5_isInSet u) y1.toNatClampNeg)]) (w' := W_X5 u) [] 5 (by with_unfolding_all rfl) (h4) ?_
        refine ev_br rfl rfl (fun h5 => ?_) (fun h5 => ?_)
        · replace hR := lf_f h5 hR
          refine ev_run (cs := []) (pc' := 26) (L' := [some (.ref 0), none, some (.int 0), some (.int (v3 + 1)), some (.int y1)]) (st' := []) (w' := W_X5 u) [] 4 (by with_unfolding_all rfl) trivial ?_
          exact ev_to2 (hk26 _ _ hR) ⟨rfl, rfl, rfl, trivial⟩ rfl rfl
        · replace hR := lf_t h5 hR
          refine ev_run (cs := []) (pc' := 62) (L' := [some (.ref 0), none, some (.int v2), some (.int v3), some (.int y1)]) (st' := [.int y1, .ref 0]) (w' := W_X5 u) [] 2 (by with_unfolding_all rfl) trivial ?_
          obtain ⟨y2, h6, hR⟩ := lf_b hR
          refine ev_callV1 0 (t_X5_lives F u y1 _ h6) cv_X5_lives ml_X5_54 rfl rfl rfl (Nat.le_of_ble_eq_true rfl) (by with_unfolding_all rfl) (Nat.le_of_ble_eq_true rfl) ⟨Nat.le_of_ble_eq_true rfl, Nat.le_of_ble_eq_true rfl⟩ ⟨Nat.le_refl _, Nat.le_refl _⟩ ?_ ?_
          · rintro r w ⟨rfl, rfl⟩; rfl
          rintro r w ⟨rfl, rfl⟩
          refine ev_nx (pc' := 65) (st' := [.int (ev_b y2)]) (w' := W_X5 u) rfl rfl (by with_unfolding_all rfl) rfl rfl ?_
          refine ev_br rfl rfl (fun h7 => ?_) (fun h7 => ?_)
          · replace hR := lf_z0 h7 hR
            refine ev_run (cs := []) (pc' := 26) (L' := [some (.ref 0), none, some (.int 0), some (.int (v3 + 1)), some (.int y1)]) (st' := []) (w' := W_X5 u) [] 4 (by with_unfolding_all rfl) trivial ?_
            exact ev_to2 (hk26 _ _ hR) ⟨rfl, rfl, rfl, trivial⟩ rfl rfl
          · replace hR := lf_z1 h7 hR
            refine ev_run (cs := []) (pc' := 26) (L' := [some (.ref 0), none, some (.int 1), some (.int (v3 + 1)), some (.int y1)]) (st' := []) (w' := W_X5 u) [] 5 (by with_unfolding_all rfl) trivial ?_
            exact ev_to2 (hk26 _ _ hR) ⟨rfl, rfl, rfl, trivial⟩ rfl rfl

def s_X5_findSet (F : Nat) (u : S_X5) (v1 : Int32) : Option (Bool × S_X5) := (s_X5_clear F 24 (a_X5_isInSet u)).bind fun y1 => (if lf_ix v1 24 then ((s_X5_spread_p6 F (m_X5_isInSet (upd y1 v1.toNatClampNeg 1) u)).bind fun y2 => (s_X5_findSet_l26 F y2 F 0 0)) else none)
set_option maxHeartbeats 4000000 in
set_option maxRecDepth 20000 in
theorem t_X5_findSet (F : Nat) (u : S_X5) (v1 : Int32) (x : (Bool × S_X5)) (hR : s_X5_findSet F u v1 = some x) : ev_A yX5_findSet mm_X5_findSet none [.ref 0, .int v1] (W_X5 u) (fun r w => r = some (.int (ev_b x.1)) ∧ w = W_X5 x.2) := by
  unfold s_X5_findSet at hR
  refine ev_start ok_X5_findSet (by decide +kernel) rfl rfl (Nat.le_of_ble_eq_true rfl) ?_
  refine ev_run (cs := []) (pc' := 4) (L' := [some (.ref 0), some (.int v1), none, none, none]) (st' := [.ref 6]) (w' := W_X5 u) [] 2 (by with_unfolding_all rfl) trivial ?_
  obtain ⟨y1, h1, hR⟩ := lf_b hR
  refine ev_callS1 6 (t_X5_clear F 24 (a_X5_isInSet u) _ h1) cs_X5_clear ml_X5_64 rfl rfl rfl (Nat.le_of_ble_eq_true rfl) (by with_unfolding_all rfl) (Nat.le_of_ble_eq_true rfl) ⟨Nat.le_of_ble_eq_true rfl, Nat.le_of_ble_eq_true rfl⟩ ⟨Nat.le_refl _, Nat.le_refl _⟩ ?_ ?_
  · rintro r w ⟨rfl, rfl⟩; rfl
  rintro r w ⟨rfl, rfl⟩
  refine ev_nx (pc' := 7) (st' := []) (w' := W_X5 (m_X5_isInSet y1 u)) rfl rfl (by with_unfolding_all rfl) rfl rfl ?_
  obtain ⟨h2, hR⟩ := lf_g hR
  refine ev_run (cs := [lf_ix v1 24]) (pc' := 19) (L' := [some (.ref 0), some (.int v1), none, none, none]) (st' := [.ref 6, .ref 0]) (w' := W_X5 (m_X5_isInSet (upd y1 v1.toNatClampNeg 1) u)) [] 8 (by with_unfolding_all rfl) (h2) ?_
  obtain ⟨y2, h3, hR⟩ := lf_b hR
  refine ev_callV1 0 (t_X5_spread_p6 F (m_X5_isInSet (upd y1 v1.toNatClampNeg 1) u) _ h3) cv_X5_spread ml_X5_68 rfl rfl rfl (Nat.le_of_ble_eq_true rfl) (by with_unfolding_all rfl) (Nat.le_of_ble_eq_true rfl) ⟨Nat.le_of_ble_eq_true rfl, Nat.le_of_ble_eq_true rfl⟩ ⟨Nat.le_refl _, Nat.le_refl _⟩ ?_ ?_
  · rintro r w ⟨rfl, rfl⟩; rfl
  rintro r w ⟨rfl, rfl⟩
  refine ev_nx (pc' := 22) (st' := []) (w' := W_X5 y2) rfl rfl (by with_unfolding_all rfl) rfl rfl ?_
  refine ev_run (cs := []) (pc' := 26) (L' := [some (.ref 0), some (.int v1), some (.int 0), some (.int 0), none]) (st' := []) (w' := W_X5 y2) [] 4 (by with_unfolding_all rfl) trivial ?_
  exact ev_to2 (t_X5_findSet_l26 F y2 _ F 0 0 hR) ⟨rfl, rfl, rfl, trivial⟩ rfl rfl

def s_X5_restOf_l22 (F : Nat) (u : S_X5) (v1 : Int32) (v3 : Int32) (k9 : Int32 → Int32 → Option Int32) : Nat → Int32 → Int32 → Option Int32
  | 0 => fun _ _ => none
  | n + 1 => fun v2 v4 => if 4 ≤ v4 then (k9 v2 (v3 + 1)) else (if lf_ix v3 24 then (if ((a_X5_isInSet u) v3.toNatClampNeg) = 1 then ((s_X5_slotOf F u v3 v4).bind fun y1 => (if y1 = v1 then (s_X5_restOf_l22 F u v1 v3 k9 n (v2 - 1) (v4 + 1)) else (s_X5_restOf_l22 F u v1 v3 k9 n (v2 - 0) (v4 + 1)))) else (k9 v2 (v3 + 1))) else none)
theorem e_X5_restOf_l22 (F : Nat) (u : S_X5) (v1 : Int32) (v3 : Int32) (k9 : Int32 → Int32 → Option Int32) (n : Nat) (v2 : Int32) (v4 : Int32) : s_X5_restOf_l22 F u v1 v3 k9 (n + 1) v2 v4 = if 4 ≤ v4 then (k9 v2 (v3 + 1)) else (if lf_ix v3 24 then (if ((a_X5_isInSet u) v3.toNatClampNeg) = 1 then ((s_X5_slotOf F u v3 v4).bind fun y1 => (if y1 = v1 then (s_X5_restOf_l22 F u v1 v3 k9 n (v2 - 1) (v4 + 1)) else (s_X5_restOf_l22 F u v1 v3 k9 n (v2 - 0) (v4 + 1)))) else (k9 v2 (v3 + 1))) else none) := rfl
set_option maxHeartbeats 4000000 in
set_option maxRecDepth 20000 in
theorem t_X5_restOf_l22 (F : Nat) (u : S_X5) (v1 : Int32) (v3 : Int32) (k9 : Int32 → Int32 → Option Int32) (x : Int32) (hk9 : ∀ (v2 : Int32) (v3 : Int32), k9 v2 v3 = some x → ev_V mm_X5_restOf none (ev_XR mm_X5_restOf (fun r w => r = some (.int x) ∧ w = W_X5 u)) 9 [some (.ref 0), some (.int v1), some (.int v2), some (.int v3), none] [] (W_X5 u) 0 0) : ∀ (n : Nat) (v2 : Int32) (v4 : Int32), s_X5_restOf_l22 F u v1 v3 k9 n v2 v4 = some x → ev_V mm_X5_restOf none (ev_XR mm_X5_restOf (fun r w => r = some (.int x) ∧ w = W_X5 u)) 22 [some (.ref 0), some (.int v1), some (.int v2), some (.int v3), some (.int v4)] [] (W_X5 u) 0 0 := by
  intro n
  induction n with
  | zero => intro v2 v4 hR; cases hR
  | succ n hk22 =>
    intro v2 v4 hR
    unfold s_X5_restOf_l22 at hR
    refine ev_run (cs := []) (pc' := 25) (L' := [some (.ref 0), some (.int v1), some (.int v2), some (.int v3), some (.int v4)]) (st' := [.int 4, .int v4]) (w' := W_X5 u) [] 2 (by with_unfolding_all rfl) trivial ?_
    refine ev_br rfl rfl (fun h1 => ?_) (fun h1 => ?_)
    · replace hR := lf_t h1 hR
      refine ev_run (cs := []) (pc' := 9) (L' := [some (.ref 0), some (.int v1), some (.int v2), some (.int (v3 + 1)), some (.int v4)]) (st' := []) (w' := W_X5 u) [] 2 (by with_unfolding_all rfl) trivial ?_
      exact ev_to2 (hk9 _ _ hR) ⟨rfl, rfl, rfl, rfl, trivial⟩ rfl rfl
    · replace hR := lf_f h1 hR
      obtain ⟨h2, hR⟩ := lf_g hR
      refine ev_run (cs := [lf_ix v3 24]) (pc' := 35) (L' := [some (.ref 0), some (.int v1), some (.int v2), some (.int v3), some (.int v4)]) (st' := [.int 1, .int ((a_X5_isInSet u) v3.toNatClampNeg)]) (w' := W_X5 u) [] 5 (by with_unfolding_all rfl) (h2) ?_
      refine ev_br rfl rfl (fun h3 => ?_) (fun h3 => ?_)
      · replace hR := lf_f h3 hR
        refine ev_run (cs := []) (pc' := 9) (L' := [some (.ref 0), some (.int v1), some (.int v2), some (.int (v3 + 1)), some (.int v4)]) (st' := []) (w' := W_X5 u) [] 2 (by with_unfolding_all rfl) trivial ?_
        exact ev_to2 (hk9 _ _ hR) ⟨rfl, rfl, rfl, rfl, trivial⟩ rfl rfl
      · replace hR := lf_t h3 hR
        refine ev_run (cs := []) (pc' := 43) (L' := [some (.ref 0), some (.int v1), some (.int v2), some (.int v3), some (.int v4)]) (st' := [.int v4, .int v3, .ref 0, .int v2]) (w' := W_X5 u) [] 4 (by with_unfolding_all rfl) trivial ?_
        obtain ⟨y1, h4, hR⟩ := lf_b hR
        refine ev_callV1 0 (t_X5_slotOf F u v3 v4 _ h4) cv_X5_slotOf ml_X5_58 rfl rfl rfl (Nat.le_of_ble_eq_true rfl) (by with_unfolding_all rfl) (Nat.le_of_ble_eq_true rfl) ⟨Nat.le_of_ble_eq_true rfl, Nat.le_of_ble_eq_true rfl⟩ ⟨Nat.le_refl _, Nat.le_refl _⟩ ?_ ?_
        · rintro r w ⟨rfl, rfl⟩; rfl
        rintro r w ⟨rfl, rfl⟩
        refine ev_nx (pc' := 46) (st' := [.int y1, .int v2]) (w' := W_X5 u) rfl rfl (by with_unfolding_all rfl) rfl rfl ?_
        refine ev_run (cs := []) (pc' := 47) (L' := [some (.ref 0), some (.int v1), some (.int v2), some (.int v3), some (.int v4)]) (st' := [.int v1, .int y1, .int v2]) (w' := W_X5 u) [] 1 (by with_unfolding_all rfl) trivial ?_
        refine ev_br rfl rfl (fun h5 => ?_) (fun h5 => ?_)
        · replace hR := lf_f h5 hR
          refine ev_run (cs := []) (pc' := 22) (L' := [some (.ref 0), some (.int v1), some (.int (v2 - 0)), some (.int v3), some (.int (v4 + 1))]) (st' := []) (w' := W_X5 u) [] 5 (by with_unfolding_all rfl) trivial ?_
          exact ev_to2 (hk22 _ _ hR) ⟨rfl, rfl, rfl, rfl, rfl, trivial⟩ rfl rfl
        · replace hR := lf_t h5 hR
          refine ev_run (cs := []) (pc' := 22) (L' := [some (.ref 0), some (.int v1), some (.int (v2 - 1)), some (.int v3), some (.int (v4 + 1))]) (st' := []) (w' := W_X5 u) [] 6 (by with_unfolding_all rfl) trivial ?_
          exact ev_to2 (hk22 _ _ hR) ⟨rfl, rfl, rfl, rfl, rfl, trivial⟩ rfl rfl

def s_X5_restOf_l9 (F : Nat) (u : S_X5) (v1 : Int32) : Nat → Int32 → Int32 → Option Int32
  | 0 => fun _ _ => none
  | n + 1 => fun v2 v3 => if ((a_X5_state u) (1 : Int32).toNatClampNeg) ≤ v3 then (some (v2)) else (s_X5_restOf_l22 F u v1 v3 (s_X5_restOf_l9 F u v1 n) F v2 0)
theorem e_X5_restOf_l9 (F : Nat) (u : S_X5) (v1 : Int32) (n : Nat) (v2 : Int32) (v3 : Int32) : s_X5_restOf_l9 F u v1 (n + 1) v2 v3 = if ((a_X5_state u) (1 : Int32).toNatClampNeg) ≤ v3 then (some (v2)) else (s_X5_restOf_l22 F u v1 v3 (s_X5_restOf_l9 F u v1 n) F v2 0) := rfl
set_option maxHeartbeats 4000000 in
set_option maxRecDepth 20000 in
theorem t_X5_restOf_l9 (F : Nat) (u : S_X5) (v1 : Int32) (x : Int32)  : ∀ (n : Nat) (v2 : Int32) (v3 : Int32), s_X5_restOf_l9 F u v1 n v2 v3 = some x → ev_V mm_X5_restOf none (ev_XR mm_X5_restOf (fun r w => r = some (.int x) ∧ w = W_X5 u)) 9 [some (.ref 0), some (.int v1), some (.int v2), some (.int v3), none] [] (W_X5 u) 0 0 := by
  intro n
  induction n with
  | zero => intro v2 v3 hR; cases hR
  | succ n hk9 =>
    intro v2 v3 hR
    unfold s_X5_restOf_l9 at hR
    refine ev_run (cs := [lf_ix 1 20377]) (pc' := 16) (L' := [some (.ref 0), some (.int v1), some (.int v2), some (.int v3), none]) (st' := [.int ((a_X5_state u) (1 : Int32).toNatClampNeg), .int v3]) (w' := W_X5 u) [] 5 (by with_unfolding_all rfl) (by show ¬ _; decide) ?_
    refine ev_br rfl rfl (fun h1 => ?_) (fun h1 => ?_)
    · replace hR := lf_t h1 hR
      refine ev_run (cs := []) (pc' := 70) (L' := [some (.ref 0), some (.int v1), some (.int v2), some (.int v3), none]) (st' := [.int v2]) (w' := W_X5 u) [] 1 (by with_unfolding_all rfl) trivial ?_
      cases hR
      exact ev_exit ⟨_, _, rfl, ⟨rfl, Or.inl rfl⟩, ⟨rfl, rfl⟩, Nat.le_refl _, Nat.le_refl _⟩
    · replace hR := lf_f h1 hR
      refine ev_run (cs := []) (pc' := 22) (L' := [some (.ref 0), some (.int v1), some (.int v2), some (.int v3), some (.int 0)]) (st' := []) (w' := W_X5 u) [] 2 (by with_unfolding_all rfl) trivial ?_
      exact ev_to2 (t_X5_restOf_l22 F u v1 v3 (s_X5_restOf_l9 F u v1 n) _ hk9 F v2 0 hR) ⟨rfl, rfl, rfl, rfl, rfl, trivial⟩ rfl rfl

def s_X5_restOf (F : Nat) (u : S_X5) (v1 : Int32) : Option Int32 := (s_X5_part F u v1 2).bind fun y1 => (s_X5_restOf_l9 F u v1 F y1 0)
set_option maxHeartbeats 4000000 in
set_option maxRecDepth 20000 in
theorem t_X5_restOf (F : Nat) (u : S_X5) (v1 : Int32) (x : Int32) (hR : s_X5_restOf F u v1 = some x) : ev_A yX5_restOf mm_X5_restOf none [.ref 0, .int v1] (W_X5 u) (fun r w => r = some (.int x) ∧ w = W_X5 u) := by
  unfold s_X5_restOf at hR
  refine ev_start ok_X5_restOf (by decide +kernel) rfl rfl (Nat.le_of_ble_eq_true rfl) ?_
  refine ev_run (cs := []) (pc' := 3) (L' := [some (.ref 0), some (.int v1), none, none, none]) (st' := [.int 2, .int v1, .ref 0]) (w' := W_X5 u) [] 3 (by with_unfolding_all rfl) trivial ?_
  obtain ⟨y1, h1, hR⟩ := lf_b hR
  refine ev_callV1 0 (t_X5_part F u v1 2 _ h1) cv_X5_part ml_X5_50 rfl rfl rfl (Nat.le_of_ble_eq_true rfl) (by with_unfolding_all rfl) (Nat.le_of_ble_eq_true rfl) ⟨Nat.le_of_ble_eq_true rfl, Nat.le_of_ble_eq_true rfl⟩ ⟨Nat.le_refl _, Nat.le_refl _⟩ ?_ ?_
  · rintro r w ⟨rfl, rfl⟩; rfl
  rintro r w ⟨rfl, rfl⟩
  refine ev_nx (pc' := 6) (st' := [.int y1]) (w' := W_X5 u) rfl rfl (by with_unfolding_all rfl) rfl rfl ?_
  refine ev_run (cs := []) (pc' := 9) (L' := [some (.ref 0), some (.int v1), some (.int y1), some (.int 0), none]) (st' := []) (w' := W_X5 u) [] 3 (by with_unfolding_all rfl) trivial ?_
  exact ev_to2 (t_X5_restOf_l9 F u v1 _ F y1 0 hR) ⟨rfl, rfl, rfl, rfl, trivial⟩ rfl rfl

def s_X5_spread_p7_l23 (F : Nat) (v3 : Int32) (k2 : S_X5 → Int32 → Option S_X5) (k10 : S_X5 → Int32 → Int32 → Option S_X5) : Nat → S_X5 → Int32 → Int32 → Option S_X5
  | 0 => fun _ _ _ => none
  | n + 1 => fun u v2 v4 => if 4 ≤ v4 then (k10 u v2 (v3 + 1)) else (if lf_ix v3 24 then (if ((a_X5_isInnocent u) v3.toNatClampNeg) = 1 then ((s_X5_lives F u v3).bind fun y1 => (if y1 then ((s_X5_slotOf F u v3 v4).bind fun y2 => (if y2 = (-1) then (s_X5_spread_p7_l23 F v3 k2 k10 n u v2 (v4 + 1)) else (if lf_ix y2 24 then (if ((a_X5_isInnocent u) y2.toNatClampNeg) = 0 then (if lf_ix y2 24 then (s_X5_spread_p7_l23 F v3 k2 k10 n (m_X5_isInnocent (upd (a_X5_isInnocent u) y2.toNatClampNeg 1) u) 1 (v4 + 1)) else none) else (s_X5_spread_p7_l23 F v3 k2 k10 n u v2 (v4 + 1))) else none))) else (k10 u v2 (v3 + 1)))) else (k10 u v2 (v3 + 1))) else none)
theorem e_X5_spread_p7_l23 (F : Nat) (v3 : Int32) (k2 : S_X5 → Int32 → Option S_X5) (k10 : S_X5 → Int32 → Int32 → Option S_X5) (n : Nat) (u : S_X5) (v2 : Int32) (v4 : Int32) : s_X5_spread_p7_l23 F v3 k2 k10 (n + 1) u v2 v4 = if 4 ≤ v4 then (k10 u v2 (v3 + 1)) else (if lf_ix v3 24 then (if ((a_X5_isInnocent u) v3.toNatClampNeg) = 1 then ((s_X5_lives F u v3).bind fun y1 => (if y1 then ((s_X5_slotOf F u v3 v4).bind fun y2 => (if y2 = (-1) then (s_X5_spread_p7_l23 F v3 k2 k10 n u v2 (v4 + 1)) else (if lf_ix y2 24 then (if ((a_X5_isInnocent u) y2.toNatClampNeg) = 0 then (if lf_ix y2 24 then (s_X5_spread_p7_l23 F v3 k2 k10 n (m_X5_isInnocent (upd (a_X5_isInnocent u) y2.toNatClampNeg 1) u) 1 (v4 + 1)) else none) else (s_X5_spread_p7_l23 F v3 k2 k10 n u v2 (v4 + 1))) else none))) else (k10 u v2 (v3 + 1)))) else (k10 u v2 (v3 + 1))) else none) := rfl
set_option maxHeartbeats 4000000 in
set_option maxRecDepth 20000 in
theorem t_X5_spread_p7_l23 (F : Nat) (v3 : Int32) (k2 : S_X5 → Int32 → Option S_X5) (k10 : S_X5 → Int32 → Int32 → Option S_X5) (x : S_X5) (hk2 : ∀ (u : S_X5) (v2 : Int32), k2 u v2 = some x → ev_V mm_X5_spread none (ev_XR mm_X5_spread (fun r w => r = none ∧ w = W_X5 x)) 2 [some (.ref 0), some (.ref 7), some (.int v2), none, none, none] [] (W_X5 u) 0 0) (hk10 : ∀ (u : S_X5) (v2 : Int32) (v3 : Int32), k10 u v2 v3 = some x → ev_V mm_X5_spread none (ev_XR mm_X5_spread (fun r w => r = none ∧ w = W_X5 x)) 10 [some (.ref 0), some (.ref 7), some (.int v2), some (.int v3), none, none] [] (W_X5 u) 0 0) : ∀ (n : Nat) (u : S_X5) (v2 : Int32) (v4 : Int32), s_X5_spread_p7_l23 F v3 k2 k10 n u v2 v4 = some x → ev_V mm_X5_spread none (ev_XR mm_X5_spread (fun r w => r = none ∧ w = W_X5 x)) 23 [some (.ref 0), some (.ref 7), some (.int v2), some (.int v3), some (.int v4), none] [] (W_X5 u) 0 0 := by
  intro n
  induction n with
  | zero => intro u v2 v4 hR; cases hR
  | succ n hk23 =>
    intro u v2 v4 hR
    unfold s_X5_spread_p7_l23 at hR
    refine ev_run (cs := []) (pc' := 26) (L' := [some (.ref 0), some (.ref 7), some (.int v2), some (.int v3), some (.int v4), none]) (st' := [.int 4, .int v4]) (w' := W_X5 u) [] 2 (by with_unfolding_all rfl) trivial ?_
    refine ev_br rfl rfl (fun h1 => ?_) (fun h1 => ?_)
    · replace hR := lf_t h1 hR
      refine ev_run (cs := []) (pc' := 10) (L' := [some (.ref 0), some (.ref 7), some (.int v2), some (.int (v3 + 1)), some (.int v4), none]) (st' := []) (w' := W_X5 u) [] 2 (by with_unfolding_all rfl) trivial ?_
      exact ev_to2 (hk10 _ _ _ hR) ⟨rfl, rfl, rfl, rfl, trivial⟩ rfl rfl
    · replace hR := lf_f h1 hR
      obtain ⟨h2, hR⟩ := lf_g hR
      refine ev_run (cs := [lf_ix v3 24]) (pc' := 33) (L' := [some (.ref 0), some (.ref 7), some (.int v2), some (.int v3), some (.int v4), none]) (st' := [.int 1, .int ((a_X5_isInnocent u) v3.toNatClampNeg)]) (w' := W_X5 u) [] 4 (by with_unfolding_all rfl) (h2) ?_
      refine ev_br rfl rfl (fun h3 => ?_) (fun h3 => ?_)
      · replace hR := lf_f h3 hR
        refine ev_run (cs := []) (pc' := 10) (L' := [some (.ref 0), some (.ref 7), some (.int v2), some (.int (v3 + 1)), some (.int v4), none]) (st' := []) (w' := W_X5 u) [] 2 (by with_unfolding_all rfl) trivial ?_
        exact ev_to2 (hk10 _ _ _ hR) ⟨rfl, rfl, rfl, rfl, trivial⟩ rfl rfl
      · replace hR := lf_t h3 hR
        refine ev_run (cs := []) (pc' := 38) (L' := [some (.ref 0), some (.ref 7), some (.int v2), some (.int v3), some (.int v4), none]) (st' := [.int v3, .ref 0]) (w' := W_X5 u) [] 2 (by with_unfolding_all rfl) trivial ?_
        obtain ⟨y1, h4, hR⟩ := lf_b hR
        refine ev_callV1 0 (t_X5_lives F u v3 _ h4) cv_X5_lives ml_X5_54 rfl rfl rfl (Nat.le_of_ble_eq_true rfl) (by with_unfolding_all rfl) (Nat.le_of_ble_eq_true rfl) ⟨Nat.le_of_ble_eq_true rfl, Nat.le_of_ble_eq_true rfl⟩ ⟨Nat.le_refl _, Nat.le_refl _⟩ ?_ ?_
        · rintro r w ⟨rfl, rfl⟩; rfl
        rintro r w ⟨rfl, rfl⟩
        refine ev_nx (pc' := 41) (st' := [.int (ev_b y1)]) (w' := W_X5 u) rfl rfl (by with_unfolding_all rfl) rfl rfl ?_
        refine ev_br rfl rfl (fun h5 => ?_) (fun h5 => ?_)
        · replace hR := lf_z0 h5 hR
          refine ev_run (cs := []) (pc' := 10) (L' := [some (.ref 0), some (.ref 7), some (.int v2), some (.int (v3 + 1)), some (.int v4), none]) (st' := []) (w' := W_X5 u) [] 2 (by with_unfolding_all rfl) trivial ?_
          exact ev_to2 (hk10 _ _ _ hR) ⟨rfl, rfl, rfl, rfl, trivial⟩ rfl rfl
        · replace hR := lf_z1 h5 hR
          refine ev_run (cs := []) (pc' := 48) (L' := [some (.ref 0), some (.ref 7), some (.int v2), some (.int v3), some (.int v4), none]) (st' := [.int v4, .int v3, .ref 0]) (w' := W_X5 u) [] 3 (by with_unfolding_all rfl) trivial ?_
          obtain ⟨y2, h6, hR⟩ := lf_b hR
          refine ev_callV1 0 (t_X5_slotOf F u v3 v4 _ h6) cv_X5_slotOf ml_X5_58 rfl rfl rfl (Nat.le_of_ble_eq_true rfl) (by with_unfolding_all rfl) (Nat.le_of_ble_eq_true rfl) ⟨Nat.le_of_ble_eq_true rfl, Nat.le_of_ble_eq_true rfl⟩ ⟨Nat.le_refl _, Nat.le_refl _⟩ ?_ ?_
          · rintro r w ⟨rfl, rfl⟩; rfl
          rintro r w ⟨rfl, rfl⟩
          refine ev_nx (pc' := 51) (st' := [.int y2]) (w' := W_X5 u) rfl rfl (by with_unfolding_all rfl) rfl rfl ?_
          refine ev_run (cs := []) (pc' := 56) (L' := [some (.ref 0), some (.ref 7), some (.int v2), some (.int v3), some (.int v4), some (.int y2)]) (st' := [.int (-1), .int y2]) (w' := W_X5 u) [] 3 (by with_unfolding_all rfl) trivial ?_
          refine ev_br rfl rfl (fun h7 => ?_) (fun h7 => ?_)
          · replace hR := lf_t h7 hR
            refine ev_run (cs := []) (pc' := 23) (L' := [some (.ref 0), some (.ref 7), some (.int v2), some (.int v3), some (.int (v4 + 1)), some (.int y2)]) (st' := []) (w' := W_X5 u) [] 2 (by with_unfolding_all rfl) trivial ?_
            exact ev_to2 (hk23 _ _ _ hR) ⟨rfl, rfl, rfl, rfl, rfl, trivial⟩ rfl rfl
          · replace hR := lf_f h7 hR
            obtain ⟨h8, hR⟩ := lf_g hR
            refine ev_run (cs := [lf_ix y2 24]) (pc' := 63) (L' := [some (.ref 0), some (.ref 7), some (.int v2), some (.int v3), some (.int v4), some (.int y2)]) (st' := [.int ((a_X5_isInnocent u) y2.toNatClampNeg)]) (w' := W_X5 u) [] 3 (by with_unfolding_all rfl) (h8) ?_
            refine ev_br rfl rfl (fun h9 => ?_) (fun h9 => ?_)
            · replace hR := lf_f h9 hR
              refine ev_run (cs := []) (pc' := 23) (L' := [some (.ref 0), some (.ref 7), some (.int v2), some (.int v3), some (.int (v4 + 1)), some (.int y2)]) (st' := []) (w' := W_X5 u) [] 2 (by with_unfolding_all rfl) trivial ?_
              exact ev_to2 (hk23 _ _ _ hR) ⟨rfl, rfl, rfl, rfl, rfl, trivial⟩ rfl rfl
            · replace hR := lf_t h9 hR
              obtain ⟨h10, hR⟩ := lf_g hR
              refine ev_run (cs := [lf_ix y2 24]) (pc' := 23) (L' := [some (.ref 0), some (.ref 7), some (.int 1), some (.int v3), some (.int (v4 + 1)), some (.int y2)]) (st' := []) (w' := W_X5 (m_X5_isInnocent (upd (a_X5_isInnocent u) y2.toNatClampNeg 1) u)) [] 8 (by with_unfolding_all rfl) (h10) ?_
              exact ev_to2 (hk23 _ _ _ hR) ⟨rfl, rfl, rfl, rfl, rfl, trivial⟩ rfl rfl

def s_X5_spread_p7_l10 (F : Nat) (k2 : S_X5 → Int32 → Option S_X5) : Nat → S_X5 → Int32 → Int32 → Option S_X5
  | 0 => fun _ _ _ => none
  | n + 1 => fun u v2 v3 => if ((a_X5_state u) (1 : Int32).toNatClampNeg) ≤ v3 then (k2 u v2) else (s_X5_spread_p7_l23 F v3 k2 (s_X5_spread_p7_l10 F k2 n) F u v2 0)
theorem e_X5_spread_p7_l10 (F : Nat) (k2 : S_X5 → Int32 → Option S_X5) (n : Nat) (u : S_X5) (v2 : Int32) (v3 : Int32) : s_X5_spread_p7_l10 F k2 (n + 1) u v2 v3 = if ((a_X5_state u) (1 : Int32).toNatClampNeg) ≤ v3 then (k2 u v2) else (s_X5_spread_p7_l23 F v3 k2 (s_X5_spread_p7_l10 F k2 n) F u v2 0) := rfl
set_option maxHeartbeats 4000000 in
set_option maxRecDepth 20000 in
theorem t_X5_spread_p7_l10 (F : Nat) (k2 : S_X5 → Int32 → Option S_X5) (x : S_X5) (hk2 : ∀ (u : S_X5) (v2 : Int32), k2 u v2 = some x → ev_V mm_X5_spread none (ev_XR mm_X5_spread (fun r w => r = none ∧ w = W_X5 x)) 2 [some (.ref 0), some (.ref 7), some (.int v2), none, none, none] [] (W_X5 u) 0 0) : ∀ (n : Nat) (u : S_X5) (v2 : Int32) (v3 : Int32), s_X5_spread_p7_l10 F k2 n u v2 v3 = some x → ev_V mm_X5_spread none (ev_XR mm_X5_spread (fun r w => r = none ∧ w = W_X5 x)) 10 [some (.ref 0), some (.ref 7), some (.int v2), some (.int v3), none, none] [] (W_X5 u) 0 0 := by
  intro n
  induction n with
  | zero => intro u v2 v3 hR; cases hR
  | succ n hk10 =>
    intro u v2 v3 hR
    unfold s_X5_spread_p7_l10 at hR
    refine ev_run (cs := [lf_ix 1 20377]) (pc' := 17) (L' := [some (.ref 0), some (.ref 7), some (.int v2), some (.int v3), none, none]) (st' := [.int ((a_X5_state u) (1 : Int32).toNatClampNeg), .int v3]) (w' := W_X5 u) [] 5 (by with_unfolding_all rfl) (by show ¬ _; decide) ?_
    refine ev_br rfl rfl (fun h1 => ?_) (fun h1 => ?_)
    · replace hR := lf_t h1 hR
      refine ev_run (cs := []) (pc' := 2) (L' := [some (.ref 0), some (.ref 7), some (.int v2), some (.int v3), none, none]) (st' := []) (w' := W_X5 u) [] 1 (by with_unfolding_all rfl) trivial ?_
      exact ev_to2 (hk2 _ _ hR) ⟨rfl, rfl, rfl, trivial⟩ rfl rfl
    · replace hR := lf_f h1 hR
      refine ev_run (cs := []) (pc' := 23) (L' := [some (.ref 0), some (.ref 7), some (.int v2), some (.int v3), some (.int 0), none]) (st' := []) (w' := W_X5 u) [] 2 (by with_unfolding_all rfl) trivial ?_
      exact ev_to2 (t_X5_spread_p7_l23 F v3 k2 (s_X5_spread_p7_l10 F k2 n) _ hk2 hk10 F u v2 0 hR) ⟨rfl, rfl, rfl, rfl, rfl, trivial⟩ rfl rfl

def s_X5_spread_p7_l2 (F : Nat) : Nat → S_X5 → Int32 → Option S_X5
  | 0 => fun _ _ => none
  | n + 1 => fun u v2 => if v2 = 0 then (some (u)) else (s_X5_spread_p7_l10 F (s_X5_spread_p7_l2 F n) F u 0 0)
theorem e_X5_spread_p7_l2 (F : Nat) (n : Nat) (u : S_X5) (v2 : Int32) : s_X5_spread_p7_l2 F (n + 1) u v2 = if v2 = 0 then (some (u)) else (s_X5_spread_p7_l10 F (s_X5_spread_p7_l2 F n) F u 0 0) := rfl
set_option maxHeartbeats 4000000 in
set_option maxRecDepth 20000 in
theorem t_X5_spread_p7_l2 (F : Nat) (x : S_X5)  : ∀ (n : Nat) (u : S_X5) (v2 : Int32), s_X5_spread_p7_l2 F n u v2 = some x → ev_V mm_X5_spread none (ev_XR mm_X5_spread (fun r w => r = none ∧ w = W_X5 x)) 2 [some (.ref 0), some (.ref 7), some (.int v2), none, none, none] [] (W_X5 u) 0 0 := by
  intro n
  induction n with
  | zero => intro u v2 hR; cases hR
  | succ n hk2 =>
    intro u v2 hR
    unfold s_X5_spread_p7_l2 at hR
    refine ev_run (cs := []) (pc' := 3) (L' := [some (.ref 0), some (.ref 7), some (.int v2), none, none, none]) (st' := [.int v2]) (w' := W_X5 u) [] 1 (by with_unfolding_all rfl) trivial ?_
    refine ev_br rfl rfl (fun h1 => ?_) (fun h1 => ?_)
    · replace hR := lf_t h1 hR
      cases hR
      exact ev_exit ⟨_, _, rfl, ⟨rfl, rfl⟩, ⟨rfl, rfl⟩, Nat.le_refl _, Nat.le_refl _⟩
    · replace hR := lf_f h1 hR
      refine ev_run (cs := []) (pc' := 10) (L' := [some (.ref 0), some (.ref 7), some (.int 0), some (.int 0), none, none]) (st' := []) (w' := W_X5 u) [] 4 (by with_unfolding_all rfl) trivial ?_
      exact ev_to2 (t_X5_spread_p7_l10 F (s_X5_spread_p7_l2 F n) _ hk2 F u 0 0 hR) ⟨rfl, rfl, rfl, rfl, trivial⟩ rfl rfl

def s_X5_spread_p7 (F : Nat) (u : S_X5) : Option S_X5 := s_X5_spread_p7_l2 F F u 1
set_option maxHeartbeats 4000000 in
set_option maxRecDepth 20000 in
theorem t_X5_spread_p7 (F : Nat) (u : S_X5) (x : S_X5) (hR : s_X5_spread_p7 F u = some x) : ev_A yX5_spread mm_X5_spread none [.ref 0, .ref 7] (W_X5 u) (fun r w => r = none ∧ w = W_X5 x) := by
  unfold s_X5_spread_p7 at hR
  refine ev_start ok_X5_spread (by decide +kernel) rfl rfl (Nat.le_of_ble_eq_true rfl) ?_
  refine ev_run (cs := []) (pc' := 2) (L' := [some (.ref 0), some (.ref 7), some (.int 1), none, none, none]) (st' := []) (w' := W_X5 u) [] 2 (by with_unfolding_all rfl) trivial ?_
  exact ev_to2 (t_X5_spread_p7_l2 F _ F u 1 hR) ⟨rfl, rfl, rfl, trivial⟩ rfl rfl

def s_X5_findInnocent_b54 (F : Nat) (u : S_X5) : Option S_X5 := (s_X5_spread_p7 F u).bind fun y1 => (some (y1))
set_option maxHeartbeats 4000000 in
set_option maxRecDepth 20000 in
theorem t_X5_findInnocent_b54 (F : Nat) (u : S_X5) (x : S_X5)  (hR : s_X5_findInnocent_b54 F u = some x) : ev_V mm_X5_findInnocent none (ev_XR mm_X5_findInnocent (fun r w => r = none ∧ w = W_X5 x)) 54 [some (.ref 0), none] [] (W_X5 u) 0 0 := by
  unfold s_X5_findInnocent_b54 at hR
  refine ev_run (cs := []) (pc' := 59) (L' := [some (.ref 0), none]) (st' := [.ref 7, .ref 0]) (w' := W_X5 u) [] 3 (by with_unfolding_all rfl) trivial ?_
  obtain ⟨y1, h1, hR⟩ := lf_b hR
  refine ev_callV1 0 (t_X5_spread_p7 F u _ h1) cv_X5_spread ml_X5_68 rfl rfl rfl (Nat.le_of_ble_eq_true rfl) (by with_unfolding_all rfl) (Nat.le_of_ble_eq_true rfl) ⟨Nat.le_of_ble_eq_true rfl, Nat.le_of_ble_eq_true rfl⟩ ⟨Nat.le_refl _, Nat.le_refl _⟩ ?_ ?_
  · rintro r w ⟨rfl, rfl⟩; rfl
  rintro r w ⟨rfl, rfl⟩
  refine ev_nx (pc' := 62) (st' := []) (w' := W_X5 y1) rfl rfl (by with_unfolding_all rfl) rfl rfl ?_
  cases hR
  exact ev_exit ⟨_, _, rfl, ⟨rfl, rfl⟩, ⟨rfl, rfl⟩, Nat.le_refl _, Nat.le_refl _⟩

def s_X5_findInnocent_l9 (F : Nat) : Nat → S_X5 → Int32 → Option S_X5
  | 0 => fun _ _ => none
  | n + 1 => fun u v1 => if ((a_X5_state u) (1 : Int32).toNatClampNeg) ≤ v1 then (s_X5_findInnocent_b54 F u) else (if lf_ix v1 24 then (if ((a_X5_isInSet u) v1.toNatClampNeg) = 1 then ((s_X5_restOf F u v1).bind fun y1 => (if y1 ≤ 0 then (if lf_ix v1 24 then (s_X5_findInnocent_l9 F n (m_X5_isInnocent (upd (a_X5_isInnocent u) v1.toNatClampNeg 0) u) (v1 + 1)) else none) else (if lf_ix v1 24 then (s_X5_findInnocent_l9 F n (m_X5_isInnocent (upd (a_X5_isInnocent u) v1.toNatClampNeg 1) u) (v1 + 1)) else none))) else (if lf_ix v1 24 then (s_X5_findInnocent_l9 F n (m_X5_isInnocent (upd (a_X5_isInnocent u) v1.toNatClampNeg 0) u) (v1 + 1)) else none)) else none)
theorem e_X5_findInnocent_l9 (F : Nat) (n : Nat) (u : S_X5) (v1 : Int32) : s_X5_findInnocent_l9 F (n + 1) u v1 = if ((a_X5_state u) (1 : Int32).toNatClampNeg) ≤ v1 then (s_X5_findInnocent_b54 F u) else (if lf_ix v1 24 then (if ((a_X5_isInSet u) v1.toNatClampNeg) = 1 then ((s_X5_restOf F u v1).bind fun y1 => (if y1 ≤ 0 then (if lf_ix v1 24 then (s_X5_findInnocent_l9 F n (m_X5_isInnocent (upd (a_X5_isInnocent u) v1.toNatClampNeg 0) u) (v1 + 1)) else none) else (if lf_ix v1 24 then (s_X5_findInnocent_l9 F n (m_X5_isInnocent (upd (a_X5_isInnocent u) v1.toNatClampNeg 1) u) (v1 + 1)) else none))) else (if lf_ix v1 24 then (s_X5_findInnocent_l9 F n (m_X5_isInnocent (upd (a_X5_isInnocent u) v1.toNatClampNeg 0) u) (v1 + 1)) else none)) else none) := rfl
set_option maxHeartbeats 4000000 in
set_option maxRecDepth 20000 in
theorem t_X5_findInnocent_l9 (F : Nat) (x : S_X5)  : ∀ (n : Nat) (u : S_X5) (v1 : Int32), s_X5_findInnocent_l9 F n u v1 = some x → ev_V mm_X5_findInnocent none (ev_XR mm_X5_findInnocent (fun r w => r = none ∧ w = W_X5 x)) 9 [some (.ref 0), some (.int v1)] [] (W_X5 u) 0 0 := by
  intro n
  induction n with
  | zero => intro u v1 hR; cases hR
  | succ n hk9 =>
    intro u v1 hR
    unfold s_X5_findInnocent_l9 at hR
    refine ev_run (cs := [lf_ix 1 20377]) (pc' := 16) (L' := [some (.ref 0), some (.int v1)]) (st' := [.int ((a_X5_state u) (1 : Int32).toNatClampNeg), .int v1]) (w' := W_X5 u) [] 5 (by with_unfolding_all rfl) (by show ¬ _; decide) ?_
    refine ev_br rfl rfl (fun h1 => ?_) (fun h1 => ?_)
    · replace hR := lf_t h1 hR
      exact ev_to2 (t_X5_findInnocent_b54 F u _ hR) ⟨rfl, trivial⟩ rfl rfl
    · replace hR := lf_f h1 hR
      obtain ⟨h2, hR⟩ := lf_g hR
      refine ev_run (cs := [lf_ix v1 24]) (pc' := 31) (L' := [some (.ref 0), some (.int v1)]) (st' := [.int 1, .int ((a_X5_isInSet u) v1.toNatClampNeg), .int v1, .ref 7]) (w' := W_X5 u) [] 8 (by with_unfolding_all rfl) (h2) ?_
      refine ev_br rfl rfl (fun h3 => ?_) (fun h3 => ?_)
      · replace hR := lf_f h3 hR
        obtain ⟨h4, hR⟩ := lf_g hR
        refine ev_run (cs := [lf_ix v1 24]) (pc' := 9) (L' := [some (.ref 0), some (.int (v1 + 1))]) (st' := []) (w' := W_X5 (m_X5_isInnocent (upd (a_X5_isInnocent u) v1.toNatClampNeg 0) u)) [] 4 (by with_unfolding_all rfl) (h4) ?_
        exact ev_to2 (hk9 _ _ hR) ⟨rfl, rfl, trivial⟩ rfl rfl
      · replace hR := lf_t h3 hR
        refine ev_run (cs := []) (pc' := 36) (L' := [some (.ref 0), some (.int v1)]) (st' := [.int v1, .ref 0, .int v1, .ref 7]) (w' := W_X5 u) [] 2 (by with_unfolding_all rfl) trivial ?_
        obtain ⟨y1, h5, hR⟩ := lf_b hR
        refine ev_callV1 0 (t_X5_restOf F u v1 _ h5) cv_X5_restOf ml_X5_144 rfl rfl rfl (Nat.le_of_ble_eq_true rfl) (by with_unfolding_all rfl) (Nat.le_of_ble_eq_true rfl) ⟨Nat.le_of_ble_eq_true rfl, Nat.le_of_ble_eq_true rfl⟩ ⟨Nat.le_refl _, Nat.le_refl _⟩ ?_ ?_
        · rintro r w ⟨rfl, rfl⟩; rfl
        rintro r w ⟨rfl, rfl⟩
        refine ev_nx (pc' := 39) (st' := [.int y1, .int v1, .ref 7]) (w' := W_X5 u) rfl rfl (by with_unfolding_all rfl) rfl rfl ?_
        refine ev_br rfl rfl (fun h6 => ?_) (fun h6 => ?_)
        · replace hR := lf_t h6 hR
          obtain ⟨h7, hR⟩ := lf_g hR
          refine ev_run (cs := [lf_ix v1 24]) (pc' := 9) (L' := [some (.ref 0), some (.int (v1 + 1))]) (st' := []) (w' := W_X5 (m_X5_isInnocent (upd (a_X5_isInnocent u) v1.toNatClampNeg 0) u)) [] 4 (by with_unfolding_all rfl) (h7) ?_
          exact ev_to2 (hk9 _ _ hR) ⟨rfl, rfl, trivial⟩ rfl rfl
        · replace hR := lf_f h6 hR
          obtain ⟨h8, hR⟩ := lf_g hR
          refine ev_run (cs := [lf_ix v1 24]) (pc' := 9) (L' := [some (.ref 0), some (.int (v1 + 1))]) (st' := []) (w' := W_X5 (m_X5_isInnocent (upd (a_X5_isInnocent u) v1.toNatClampNeg 1) u)) [] 5 (by with_unfolding_all rfl) (h8) ?_
          exact ev_to2 (hk9 _ _ hR) ⟨rfl, rfl, trivial⟩ rfl rfl

def s_X5_findInnocent (F : Nat) (u : S_X5) : Option S_X5 := (s_X5_clear F 24 (a_X5_isInnocent u)).bind fun y1 => (s_X5_findInnocent_l9 F F (m_X5_isInnocent y1 u) 0)
set_option maxHeartbeats 4000000 in
set_option maxRecDepth 20000 in
theorem t_X5_findInnocent (F : Nat) (u : S_X5) (x : S_X5) (hR : s_X5_findInnocent F u = some x) : ev_A yX5_findInnocent mm_X5_findInnocent none [.ref 0] (W_X5 u) (fun r w => r = none ∧ w = W_X5 x) := by
  unfold s_X5_findInnocent at hR
  refine ev_start ok_X5_findInnocent (by decide +kernel) rfl rfl (Nat.le_of_ble_eq_true rfl) ?_
  refine ev_run (cs := []) (pc' := 4) (L' := [some (.ref 0), none]) (st' := [.ref 7]) (w' := W_X5 u) [] 2 (by with_unfolding_all rfl) trivial ?_
  obtain ⟨y1, h1, hR⟩ := lf_b hR
  refine ev_callS1 7 (t_X5_clear F 24 (a_X5_isInnocent u) _ h1) cs_X5_clear ml_X5_64 rfl rfl rfl (Nat.le_of_ble_eq_true rfl) (by with_unfolding_all rfl) (Nat.le_of_ble_eq_true rfl) ⟨Nat.le_of_ble_eq_true rfl, Nat.le_of_ble_eq_true rfl⟩ ⟨Nat.le_refl _, Nat.le_refl _⟩ ?_ ?_
  · rintro r w ⟨rfl, rfl⟩; rfl
  rintro r w ⟨rfl, rfl⟩
  refine ev_nx (pc' := 7) (st' := []) (w' := W_X5 (m_X5_isInnocent y1 u)) rfl rfl (by with_unfolding_all rfl) rfl rfl ?_
  refine ev_run (cs := []) (pc' := 9) (L' := [some (.ref 0), some (.int 0)]) (st' := []) (w' := W_X5 (m_X5_isInnocent y1 u)) [] 2 (by with_unfolding_all rfl) trivial ?_
  exact ev_to2 (t_X5_findInnocent_l9 F _ F (m_X5_isInnocent y1 u) 0 hR) ⟨rfl, rfl, trivial⟩ rfl rfl

def s_X5_nextToEnd_b46 (F : Nat) (k4 : Int32 → Int32 → Option Int32) (u : S_X5) (v1 : Int32) (v2 : Int32) (p0 : Int32) : Option Int32 := if p0 = 0 then (k4 v1 (v2 + 1)) else (if v1 = (-1) then (k4 v2 (v2 + 1)) else ((s_X5_part F u v2 1).bind fun y1 => ((s_X5_part F u v1 1).bind fun y2 => (if y1 ≤ y2 then (k4 v1 (v2 + 1)) else (k4 v2 (v2 + 1))))))
set_option maxHeartbeats 4000000 in
set_option maxRecDepth 20000 in
theorem t_X5_nextToEnd_b46 (F : Nat) (k4 : Int32 → Int32 → Option Int32) (u : S_X5) (v1 : Int32) (v2 : Int32) (p0 : Int32) (x : Int32) (hk4 : ∀ (v1 : Int32) (v2 : Int32), k4 v1 v2 = some x → ev_V mm_X5_nextToEnd none (ev_XR mm_X5_nextToEnd (fun r w => r = some (.int x) ∧ w = W_X5 u)) 4 [some (.ref 0), some (.int v1), some (.int v2), none] [] (W_X5 u) 0 0) (hR : s_X5_nextToEnd_b46 F k4 u v1 v2 p0 = some x) : ev_V mm_X5_nextToEnd none (ev_XR mm_X5_nextToEnd (fun r w => r = some (.int x) ∧ w = W_X5 u)) 46 [some (.ref 0), some (.int v1), some (.int v2), none] [.int p0] (W_X5 u) 0 0 := by
  unfold s_X5_nextToEnd_b46 at hR
  refine ev_run (cs := []) (pc' := 48) (L' := [some (.ref 0), some (.int v1), some (.int v2), some (.int p0)]) (st' := [.int p0]) (w' := W_X5 u) [] 2 (by with_unfolding_all rfl) trivial ?_
  refine ev_br rfl rfl (fun h1 => ?_) (fun h1 => ?_)
  · replace hR := lf_t h1 hR
    refine ev_run (cs := []) (pc' := 4) (L' := [some (.ref 0), some (.int v1), some (.int (v2 + 1)), some (.int p0)]) (st' := []) (w' := W_X5 u) [] 4 (by with_unfolding_all rfl) trivial ?_
    exact ev_to2 (hk4 _ _ hR) ⟨rfl, rfl, rfl, trivial⟩ rfl rfl
  · replace hR := lf_f h1 hR
    refine ev_run (cs := []) (pc' := 53) (L' := [some (.ref 0), some (.int v1), some (.int v2), some (.int p0)]) (st' := [.int (-1), .int v1]) (w' := W_X5 u) [] 2 (by with_unfolding_all rfl) trivial ?_
    refine ev_br rfl rfl (fun h2 => ?_) (fun h2 => ?_)
    · replace hR := lf_t h2 hR
      refine ev_run (cs := []) (pc' := 4) (L' := [some (.ref 0), some (.int v2), some (.int (v2 + 1)), some (.int p0)]) (st' := []) (w' := W_X5 u) [] 5 (by with_unfolding_all rfl) trivial ?_
      exact ev_to2 (hk4 _ _ hR) ⟨rfl, rfl, rfl, trivial⟩ rfl rfl
    · replace hR := lf_f h2 hR
      refine ev_run (cs := []) (pc' := 59) (L' := [some (.ref 0), some (.int v1), some (.int v2), some (.int p0)]) (st' := [.int 1, .int v2, .ref 0]) (w' := W_X5 u) [] 3 (by with_unfolding_all rfl) trivial ?_
      obtain ⟨y1, h3, hR⟩ := lf_b hR
      refine ev_callV1 0 (t_X5_part F u v2 1 _ h3) cv_X5_part ml_X5_50 rfl rfl rfl (Nat.le_of_ble_eq_true rfl) (by with_unfolding_all rfl) (Nat.le_of_ble_eq_true rfl) ⟨Nat.le_of_ble_eq_true rfl, Nat.le_of_ble_eq_true rfl⟩ ⟨Nat.le_refl _, Nat.le_refl _⟩ ?_ ?_
      · rintro r w ⟨rfl, rfl⟩; rfl
      rintro r w ⟨rfl, rfl⟩
      refine ev_nx (pc' := 62) (st' := [.int y1]) (w' := W_X5 u) rfl rfl (by with_unfolding_all rfl) rfl rfl ?_
      refine ev_run (cs := []) (pc' := 65) (L' := [some (.ref 0), some (.int v1), some (.int v2), some (.int p0)]) (st' := [.int 1, .int v1, .ref 0, .int y1]) (w' := W_X5 u) [] 3 (by with_unfolding_all rfl) trivial ?_
      obtain ⟨y2, h4, hR⟩ := lf_b hR
      refine ev_callV1 0 (t_X5_part F u v1 1 _ h4) cv_X5_part ml_X5_50 rfl rfl rfl (Nat.le_of_ble_eq_true rfl) (by with_unfolding_all rfl) (Nat.le_of_ble_eq_true rfl) ⟨Nat.le_of_ble_eq_true rfl, Nat.le_of_ble_eq_true rfl⟩ ⟨Nat.le_refl _, Nat.le_refl _⟩ ?_ ?_
      · rintro r w ⟨rfl, rfl⟩; rfl
      rintro r w ⟨rfl, rfl⟩
      refine ev_nx (pc' := 68) (st' := [.int y2, .int y1]) (w' := W_X5 u) rfl rfl (by with_unfolding_all rfl) rfl rfl ?_
      refine ev_br rfl rfl (fun h5 => ?_) (fun h5 => ?_)
      · replace hR := lf_t h5 hR
        refine ev_run (cs := []) (pc' := 4) (L' := [some (.ref 0), some (.int v1), some (.int (v2 + 1)), some (.int p0)]) (st' := []) (w' := W_X5 u) [] 4 (by with_unfolding_all rfl) trivial ?_
        exact ev_to2 (hk4 _ _ hR) ⟨rfl, rfl, rfl, trivial⟩ rfl rfl
      · replace hR := lf_f h5 hR
        refine ev_run (cs := []) (pc' := 4) (L' := [some (.ref 0), some (.int v2), some (.int (v2 + 1)), some (.int p0)]) (st' := []) (w' := W_X5 u) [] 5 (by with_unfolding_all rfl) trivial ?_
        exact ev_to2 (hk4 _ _ hR) ⟨rfl, rfl, rfl, trivial⟩ rfl rfl

def s_X5_nextToEnd_l4 (F : Nat) (u : S_X5) : Nat → Int32 → Int32 → Option Int32
  | 0 => fun _ _ => none
  | n + 1 => fun v1 v2 => if ((a_X5_state u) (1 : Int32).toNatClampNeg) ≤ v2 then (some (v1)) else (if lf_ix v2 24 then (if ((a_X5_isInSet u) v2.toNatClampNeg) = 1 then (if lf_ix v2 24 then (if ((a_X5_isInnocent u) v2.toNatClampNeg) = 0 then ((s_X5_lives F u v2).bind fun y1 => (if y1 then (s_X5_nextToEnd_b46 F (s_X5_nextToEnd_l4 F u n) u v1 v2 1) else (s_X5_nextToEnd_b46 F (s_X5_nextToEnd_l4 F u n) u v1 v2 0))) else (s_X5_nextToEnd_b46 F (s_X5_nextToEnd_l4 F u n) u v1 v2 0)) else none) else (s_X5_nextToEnd_b46 F (s_X5_nextToEnd_l4 F u n) u v1 v2 0)) else none)
theorem e_X5_nextToEnd_l4 (F : Nat) (u : S_X5) (n : Nat) (v1 : Int32) (v2 : Int32) : s_X5_nextToEnd_l4 F u (n + 1) v1 v2 = if ((a_X5_state u) (1 : Int32).toNatClampNeg) ≤ v2 then (some (v1)) else (if lf_ix v2 24 then (if ((a_X5_isInSet u) v2.toNatClampNeg) = 1 then (if lf_ix v2 24 then (if ((a_X5_isInnocent u) v2.toNatClampNeg) = 0 then ((s_X5_lives F u v2).bind fun y1 => (if y1 then (s_X5_nextToEnd_b46 F (s_X5_nextToEnd_l4 F u n) u v1 v2 1) else (s_X5_nextToEnd_b46 F (s_X5_nextToEnd_l4 F u n) u v1 v2 0))) else (s_X5_nextToEnd_b46 F (s_X5_nextToEnd_l4 F u n) u v1 v2 0)) else none) else (s_X5_nextToEnd_b46 F (s_X5_nextToEnd_l4 F u n) u v1 v2 0)) else none) := rfl
set_option maxHeartbeats 4000000 in
set_option maxRecDepth 20000 in
theorem t_X5_nextToEnd_l4 (F : Nat) (u : S_X5) (x : Int32)  : ∀ (n : Nat) (v1 : Int32) (v2 : Int32), s_X5_nextToEnd_l4 F u n v1 v2 = some x → ev_V mm_X5_nextToEnd none (ev_XR mm_X5_nextToEnd (fun r w => r = some (.int x) ∧ w = W_X5 u)) 4 [some (.ref 0), some (.int v1), some (.int v2), none] [] (W_X5 u) 0 0 := by
  intro n
  induction n with
  | zero => intro v1 v2 hR; cases hR
  | succ n hk4 =>
    intro v1 v2 hR
    unfold s_X5_nextToEnd_l4 at hR
    refine ev_run (cs := [lf_ix 1 20377]) (pc' := 11) (L' := [some (.ref 0), some (.int v1), some (.int v2), none]) (st' := [.int ((a_X5_state u) (1 : Int32).toNatClampNeg), .int v2]) (w' := W_X5 u) [] 5 (by with_unfolding_all rfl) (by show ¬ _; decide) ?_
    refine ev_br rfl rfl (fun h1 => ?_) (fun h1 => ?_)
    · replace hR := lf_t h1 hR
      refine ev_run (cs := []) (pc' := 84) (L' := [some (.ref 0), some (.int v1), some (.int v2), none]) (st' := [.int v1]) (w' := W_X5 u) [] 1 (by with_unfolding_all rfl) trivial ?_
      cases hR
      exact ev_exit ⟨_, _, rfl, ⟨rfl, Or.inl rfl⟩, ⟨rfl, rfl⟩, Nat.le_refl _, Nat.le_refl _⟩
    · replace hR := lf_f h1 hR
      obtain ⟨h2, hR⟩ := lf_g hR
      refine ev_run (cs := [lf_ix v2 24]) (pc' := 21) (L' := [some (.ref 0), some (.int v1), some (.int v2), none]) (st' := [.int 1, .int ((a_X5_isInSet u) v2.toNatClampNeg)]) (w' := W_X5 u) [] 5 (by with_unfolding_all rfl) (h2) ?_
      refine ev_br rfl rfl (fun h3 => ?_) (fun h3 => ?_)
      · replace hR := lf_f h3 hR
        refine ev_run (cs := []) (pc' := 46) (L' := [some (.ref 0), some (.int v1), some (.int v2), none]) (st' := [.int 0]) (w' := W_X5 u) [] 1 (by with_unfolding_all rfl) trivial ?_
        exact ev_to2 (t_X5_nextToEnd_b46 F (s_X5_nextToEnd_l4 F u n) u v1 v2 0 _ hk4 hR) ⟨rfl, rfl, rfl, trivial⟩ rfl rfl
      · replace hR := lf_t h3 hR
        obtain ⟨h4, hR⟩ := lf_g hR
        refine ev_run (cs := [lf_ix v2 24]) (pc' := 30) (L' := [some (.ref 0), some (.int v1), some (.int v2), none]) (st' := [.int ((a_X5_isInnocent u) v2.toNatClampNeg)]) (w' := W_X5 u) [] 4 (by with_unfolding_all rfl) (h4) ?_
        refine ev_br rfl rfl (fun h5 => ?_) (fun h5 => ?_)
        · replace hR := lf_f h5 hR
          refine ev_run (cs := []) (pc' := 46) (L' := [some (.ref 0), some (.int v1), some (.int v2), none]) (st' := [.int 0]) (w' := W_X5 u) [] 1 (by with_unfolding_all rfl) trivial ?_
          exact ev_to2 (t_X5_nextToEnd_b46 F (s_X5_nextToEnd_l4 F u n) u v1 v2 0 _ hk4 hR) ⟨rfl, rfl, rfl, trivial⟩ rfl rfl
        · replace hR := lf_t h5 hR
          refine ev_run (cs := []) (pc' := 35) (L' := [some (.ref 0), some (.int v1), some (.int v2), none]) (st' := [.int v2, .ref 0]) (w' := W_X5 u) [] 2 (by with_unfolding_all rfl) trivial ?_
          obtain ⟨y1, h6, hR⟩ := lf_b hR
          refine ev_callV1 0 (t_X5_lives F u v2 _ h6) cv_X5_lives ml_X5_54 rfl rfl rfl (Nat.le_of_ble_eq_true rfl) (by with_unfolding_all rfl) (Nat.le_of_ble_eq_true rfl) ⟨Nat.le_of_ble_eq_true rfl, Nat.le_of_ble_eq_true rfl⟩ ⟨Nat.le_refl _, Nat.le_refl _⟩ ?_ ?_
          · rintro r w ⟨rfl, rfl⟩; rfl
          rintro r w ⟨rfl, rfl⟩
          refine ev_nx (pc' := 38) (st' := [.int (ev_b y1)]) (w' := W_X5 u) rfl rfl (by with_unfolding_all rfl) rfl rfl ?_
          refine ev_br rfl rfl (fun h7 => ?_) (fun h7 => ?_)
          · replace hR := lf_z0 h7 hR
            refine ev_run (cs := []) (pc' := 46) (L' := [some (.ref 0), some (.int v1), some (.int v2), none]) (st' := [.int 0]) (w' := W_X5 u) [] 1 (by with_unfolding_all rfl) trivial ?_
            exact ev_to2 (t_X5_nextToEnd_b46 F (s_X5_nextToEnd_l4 F u n) u v1 v2 0 _ hk4 hR) ⟨rfl, rfl, rfl, trivial⟩ rfl rfl
          · replace hR := lf_z1 h7 hR
            refine ev_run (cs := []) (pc' := 46) (L' := [some (.ref 0), some (.int v1), some (.int v2), none]) (st' := [.int 1]) (w' := W_X5 u) [] 2 (by with_unfolding_all rfl) trivial ?_
            exact ev_to2 (t_X5_nextToEnd_b46 F (s_X5_nextToEnd_l4 F u n) u v1 v2 1 _ hk4 hR) ⟨rfl, rfl, rfl, trivial⟩ rfl rfl

def s_X5_nextToEnd (F : Nat) (u : S_X5) : Option Int32 := s_X5_nextToEnd_l4 F u F (-1) 0
set_option maxHeartbeats 4000000 in
set_option maxRecDepth 20000 in
theorem t_X5_nextToEnd (F : Nat) (u : S_X5) (x : Int32) (hR : s_X5_nextToEnd F u = some x) : ev_A yX5_nextToEnd mm_X5_nextToEnd none [.ref 0] (W_X5 u) (fun r w => r = some (.int x) ∧ w = W_X5 u) := by
  unfold s_X5_nextToEnd at hR
  refine ev_start ok_X5_nextToEnd (by decide +kernel) rfl rfl (Nat.le_of_ble_eq_true rfl) ?_
  refine ev_run (cs := []) (pc' := 4) (L' := [some (.ref 0), some (.int (-1)), some (.int 0), none]) (st' := []) (w' := W_X5 u) [] 4 (by with_unfolding_all rfl) trivial ?_
  exact ev_to2 (t_X5_nextToEnd_l4 F u _ F (-1) 0 hR) ⟨rfl, rfl, rfl, trivial⟩ rfl rfl

def s_X5_tries_b44 (F : Nat) (u : S_X5) : Option S_X5 := (s_X5_hearDue F u).bind fun y1 => (some (y1))
set_option maxHeartbeats 4000000 in
set_option maxRecDepth 20000 in
theorem t_X5_tries_b44 (F : Nat) (u : S_X5) (x : S_X5)  (hR : s_X5_tries_b44 F u = some x) : ev_V mm_X5_tries none (ev_XR mm_X5_tries (fun r w => r = none ∧ w = W_X5 x)) 44 [some (.ref 0), none, none] [] (W_X5 u) 0 0 := by
  unfold s_X5_tries_b44 at hR
  refine ev_run (cs := []) (pc' := 45) (L' := [some (.ref 0), none, none]) (st' := [.ref 0]) (w' := W_X5 u) [] 1 (by with_unfolding_all rfl) trivial ?_
  obtain ⟨y1, h1, hR⟩ := lf_b hR
  refine ev_callV1 0 (t_X5_hearDue F u _ h1) cv_X5_hearDue ml_X5_117 rfl rfl rfl (Nat.le_of_ble_eq_true rfl) (by with_unfolding_all rfl) (Nat.le_of_ble_eq_true rfl) ⟨Nat.le_of_ble_eq_true rfl, Nat.le_of_ble_eq_true rfl⟩ ⟨Nat.le_refl _, Nat.le_refl _⟩ ?_ ?_
  · rintro r w ⟨rfl, rfl⟩; rfl
  rintro r w ⟨rfl, rfl⟩
  refine ev_nx (pc' := 48) (st' := []) (w' := W_X5 y1) rfl rfl (by with_unfolding_all rfl) rfl rfl ?_
  cases hR
  exact ev_exit ⟨_, _, rfl, ⟨rfl, rfl⟩, ⟨rfl, rfl⟩, Nat.le_refl _, Nat.le_refl _⟩

def s_X5_tries_l25 (F : Nat) : Nat → S_X5 → Int32 → Option S_X5
  | 0 => fun _ _ => none
  | n + 1 => fun u v2 => if v2 = (-1) then (s_X5_tries_b44 F u) else ((s_X5_ends F u v2 2).bind fun y1 => ((s_X5_nextToEnd F y1).bind fun y2 => (s_X5_tries_l25 F n y1 y2)))
theorem e_X5_tries_l25 (F : Nat) (n : Nat) (u : S_X5) (v2 : Int32) : s_X5_tries_l25 F (n + 1) u v2 = if v2 = (-1) then (s_X5_tries_b44 F u) else ((s_X5_ends F u v2 2).bind fun y1 => ((s_X5_nextToEnd F y1).bind fun y2 => (s_X5_tries_l25 F n y1 y2))) := rfl
set_option maxHeartbeats 4000000 in
set_option maxRecDepth 20000 in
theorem t_X5_tries_l25 (F : Nat) (x : S_X5)  : ∀ (n : Nat) (u : S_X5) (v2 : Int32), s_X5_tries_l25 F n u v2 = some x → ev_V mm_X5_tries none (ev_XR mm_X5_tries (fun r w => r = none ∧ w = W_X5 x)) 25 [some (.ref 0), none, some (.int v2)] [] (W_X5 u) 0 0 := by
  intro n
  induction n with
  | zero => intro u v2 hR; cases hR
  | succ n hk25 =>
    intro u v2 hR
    unfold s_X5_tries_l25 at hR
    refine ev_run (cs := []) (pc' := 27) (L' := [some (.ref 0), none, some (.int v2)]) (st' := [.int (-1), .int v2]) (w' := W_X5 u) [] 2 (by with_unfolding_all rfl) trivial ?_
    refine ev_br rfl rfl (fun h1 => ?_) (fun h1 => ?_)
    · replace hR := lf_t h1 hR
      exact ev_to2 (t_X5_tries_b44 F u _ hR) ⟨rfl, trivial⟩ rfl rfl
    · replace hR := lf_f h1 hR
      refine ev_run (cs := []) (pc' := 33) (L' := [some (.ref 0), none, some (.int v2)]) (st' := [.int 2, .int v2, .ref 0]) (w' := W_X5 u) [] 3 (by with_unfolding_all rfl) trivial ?_
      obtain ⟨y1, h2, hR⟩ := lf_b hR
      refine ev_callV1 0 (t_X5_ends F u v2 2 _ h2) cv_X5_ends ml_X5_94 rfl rfl rfl (Nat.le_of_ble_eq_true rfl) (by with_unfolding_all rfl) (Nat.le_of_ble_eq_true rfl) ⟨Nat.le_of_ble_eq_true rfl, Nat.le_of_ble_eq_true rfl⟩ ⟨Nat.le_refl _, Nat.le_refl _⟩ ?_ ?_
      · rintro r w ⟨rfl, rfl⟩; rfl
      rintro r w ⟨rfl, rfl⟩
      refine ev_nx (pc' := 36) (st' := []) (w' := W_X5 y1) rfl rfl (by with_unfolding_all rfl) rfl rfl ?_
      refine ev_run (cs := []) (pc' := 37) (L' := [some (.ref 0), none, some (.int v2)]) (st' := [.ref 0]) (w' := W_X5 y1) [] 1 (by with_unfolding_all rfl) trivial ?_
      obtain ⟨y2, h3, hR⟩ := lf_b hR
      refine ev_callV1 0 (t_X5_nextToEnd F y1 _ h3) cv_X5_nextToEnd ml_X5_153 rfl rfl rfl (Nat.le_of_ble_eq_true rfl) (by with_unfolding_all rfl) (Nat.le_of_ble_eq_true rfl) ⟨Nat.le_of_ble_eq_true rfl, Nat.le_of_ble_eq_true rfl⟩ ⟨Nat.le_refl _, Nat.le_refl _⟩ ?_ ?_
      · rintro r w ⟨rfl, rfl⟩; rfl
      rintro r w ⟨rfl, rfl⟩
      refine ev_nx (pc' := 40) (st' := [.int y2]) (w' := W_X5 y1) rfl rfl (by with_unfolding_all rfl) rfl rfl ?_
      refine ev_run (cs := []) (pc' := 25) (L' := [some (.ref 0), none, some (.int y2)]) (st' := []) (w' := W_X5 y1) [] 2 (by with_unfolding_all rfl) trivial ?_
      exact ev_to2 (hk25 _ _ hR) ⟨rfl, rfl, trivial⟩ rfl rfl

def s_X5_tries (F : Nat) (u : S_X5) (v1 : Int32) : Option S_X5 := (s_X5_findSet F u v1).bind fun y1 => (if y1.1 then (some (y1.2)) else ((s_X5_setPart F y1.2 v1 3 0).bind fun y2 => ((s_X5_findInnocent F y2).bind fun y3 => ((s_X5_nextToEnd F y3).bind fun y4 => (s_X5_tries_l25 F F y3 y4)))))
set_option maxHeartbeats 4000000 in
set_option maxRecDepth 20000 in
theorem t_X5_tries (F : Nat) (u : S_X5) (v1 : Int32) (x : S_X5) (hR : s_X5_tries F u v1 = some x) : ev_A yX5_tries mm_X5_tries none [.ref 0, .int v1] (W_X5 u) (fun r w => r = none ∧ w = W_X5 x) := by
  unfold s_X5_tries at hR
  refine ev_start ok_X5_tries (by decide +kernel) rfl rfl (Nat.le_of_ble_eq_true rfl) ?_
  refine ev_run (cs := []) (pc' := 2) (L' := [some (.ref 0), some (.int v1), none]) (st' := [.int v1, .ref 0]) (w' := W_X5 u) [] 2 (by with_unfolding_all rfl) trivial ?_
  obtain ⟨y1, h1, hR⟩ := lf_b hR
  refine ev_callV1 0 (t_X5_findSet F u v1 _ h1) cv_X5_findSet ml_X5_147 rfl rfl rfl (Nat.le_of_ble_eq_true rfl) (by with_unfolding_all rfl) (Nat.le_of_ble_eq_true rfl) ⟨Nat.le_of_ble_eq_true rfl, Nat.le_of_ble_eq_true rfl⟩ ⟨Nat.le_refl _, Nat.le_refl _⟩ ?_ ?_
  · rintro r w ⟨rfl, rfl⟩; rfl
  rintro r w ⟨rfl, rfl⟩
  refine ev_nx (pc' := 5) (st' := [.int (ev_b y1.1)]) (w' := W_X5 y1.2) rfl rfl (by with_unfolding_all rfl) rfl rfl ?_
  refine ev_br rfl rfl (fun h2 => ?_) (fun h2 => ?_)
  · replace hR := lf_z0 h2 hR
    refine ev_run (cs := []) (pc' := 13) (L' := [some (.ref 0), some (.int v1), none]) (st' := [.int 0, .int 3, .int v1, .ref 0]) (w' := W_X5 y1.2) [] 4 (by with_unfolding_all rfl) trivial ?_
    obtain ⟨y2, h3, hR⟩ := lf_b hR
    refine ev_callV1 0 (t_X5_setPart F y1.2 v1 3 0 _ h3) cv_X5_setPart ml_X5_71 rfl rfl rfl (Nat.le_of_ble_eq_true rfl) (by with_unfolding_all rfl) (Nat.le_of_ble_eq_true rfl) ⟨Nat.le_of_ble_eq_true rfl, Nat.le_of_ble_eq_true rfl⟩ ⟨Nat.le_refl _, Nat.le_refl _⟩ ?_ ?_
    · rintro r w ⟨rfl, rfl⟩; rfl
    rintro r w ⟨rfl, rfl⟩
    refine ev_nx (pc' := 16) (st' := []) (w' := W_X5 y2) rfl rfl (by with_unfolding_all rfl) rfl rfl ?_
    refine ev_run (cs := []) (pc' := 17) (L' := [some (.ref 0), some (.int v1), none]) (st' := [.ref 0]) (w' := W_X5 y2) [] 1 (by with_unfolding_all rfl) trivial ?_
    obtain ⟨y3, h4, hR⟩ := lf_b hR
    refine ev_callV1 0 (t_X5_findInnocent F y2 _ h4) cv_X5_findInnocent ml_X5_150 rfl rfl rfl (Nat.le_of_ble_eq_true rfl) (by with_unfolding_all rfl) (Nat.le_of_ble_eq_true rfl) ⟨Nat.le_of_ble_eq_true rfl, Nat.le_of_ble_eq_true rfl⟩ ⟨Nat.le_refl _, Nat.le_refl _⟩ ?_ ?_
    · rintro r w ⟨rfl, rfl⟩; rfl
    rintro r w ⟨rfl, rfl⟩
    refine ev_nx (pc' := 20) (st' := []) (w' := W_X5 y3) rfl rfl (by with_unfolding_all rfl) rfl rfl ?_
    refine ev_run (cs := []) (pc' := 21) (L' := [some (.ref 0), some (.int v1), none]) (st' := [.ref 0]) (w' := W_X5 y3) [] 1 (by with_unfolding_all rfl) trivial ?_
    obtain ⟨y4, h5, hR⟩ := lf_b hR
    refine ev_callV1 0 (t_X5_nextToEnd F y3 _ h5) cv_X5_nextToEnd ml_X5_153 rfl rfl rfl (Nat.le_of_ble_eq_true rfl) (by with_unfolding_all rfl) (Nat.le_of_ble_eq_true rfl) ⟨Nat.le_of_ble_eq_true rfl, Nat.le_of_ble_eq_true rfl⟩ ⟨Nat.le_refl _, Nat.le_refl _⟩ ?_ ?_
    · rintro r w ⟨rfl, rfl⟩; rfl
    rintro r w ⟨rfl, rfl⟩
    refine ev_nx (pc' := 24) (st' := [.int y4]) (w' := W_X5 y3) rfl rfl (by with_unfolding_all rfl) rfl rfl ?_
    refine ev_run (cs := []) (pc' := 25) (L' := [some (.ref 0), some (.int v1), some (.int y4)]) (st' := []) (w' := W_X5 y3) [] 1 (by with_unfolding_all rfl) trivial ?_
    exact ev_to2 (t_X5_tries_l25 F _ F y3 y4 hR) ⟨rfl, rfl, trivial⟩ rfl rfl
  · replace hR := lf_z1 h2 hR
    cases hR
    exact ev_exit ⟨_, _, rfl, ⟨rfl, rfl⟩, ⟨rfl, rfl⟩, Nat.le_refl _, Nat.le_refl _⟩

def s_X5_holdTrial_l42 (F : Nat) : Nat → S_X5 → Int32 → Option S_X5
  | 0 => fun _ _ => none
  | n + 1 => fun u v1 => if ((a_X5_state u) (1 : Int32).toNatClampNeg) ≤ v1 then (some (u)) else (if lf_ix v1 24 then (if ((a_X5_isSuspect u) v1.toNatClampNeg) = 1 then ((s_X5_part F u v1 3).bind fun y1 => (if y1 = 1 then ((s_X5_tries F u v1).bind fun y2 => (s_X5_holdTrial_l42 F n y2 (v1 + 1))) else (s_X5_holdTrial_l42 F n u (v1 + 1)))) else (s_X5_holdTrial_l42 F n u (v1 + 1))) else none)
theorem e_X5_holdTrial_l42 (F : Nat) (n : Nat) (u : S_X5) (v1 : Int32) : s_X5_holdTrial_l42 F (n + 1) u v1 = if ((a_X5_state u) (1 : Int32).toNatClampNeg) ≤ v1 then (some (u)) else (if lf_ix v1 24 then (if ((a_X5_isSuspect u) v1.toNatClampNeg) = 1 then ((s_X5_part F u v1 3).bind fun y1 => (if y1 = 1 then ((s_X5_tries F u v1).bind fun y2 => (s_X5_holdTrial_l42 F n y2 (v1 + 1))) else (s_X5_holdTrial_l42 F n u (v1 + 1)))) else (s_X5_holdTrial_l42 F n u (v1 + 1))) else none) := rfl
set_option maxHeartbeats 4000000 in
set_option maxRecDepth 20000 in
theorem t_X5_holdTrial_l42 (F : Nat) (x : S_X5)  : ∀ (n : Nat) (u : S_X5) (v1 : Int32), s_X5_holdTrial_l42 F n u v1 = some x → ev_V mm_X5_holdTrial none (ev_XR mm_X5_holdTrial (fun r w => r = none ∧ w = W_X5 x)) 42 [some (.ref 0), some (.int v1)] [] (W_X5 u) 0 0 := by
  intro n
  induction n with
  | zero => intro u v1 hR; cases hR
  | succ n hk42 =>
    intro u v1 hR
    unfold s_X5_holdTrial_l42 at hR
    refine ev_run (cs := [lf_ix 1 20377]) (pc' := 49) (L' := [some (.ref 0), some (.int v1)]) (st' := [.int ((a_X5_state u) (1 : Int32).toNatClampNeg), .int v1]) (w' := W_X5 u) [] 5 (by with_unfolding_all rfl) (by show ¬ _; decide) ?_
    refine ev_br rfl rfl (fun h1 => ?_) (fun h1 => ?_)
    · replace hR := lf_t h1 hR
      cases hR
      exact ev_exit ⟨_, _, rfl, ⟨rfl, rfl⟩, ⟨rfl, rfl⟩, Nat.le_refl _, Nat.le_refl _⟩
    · replace hR := lf_f h1 hR
      obtain ⟨h2, hR⟩ := lf_g hR
      refine ev_run (cs := [lf_ix v1 24]) (pc' := 59) (L' := [some (.ref 0), some (.int v1)]) (st' := [.int 1, .int ((a_X5_isSuspect u) v1.toNatClampNeg)]) (w' := W_X5 u) [] 5 (by with_unfolding_all rfl) (h2) ?_
      refine ev_br rfl rfl (fun h3 => ?_) (fun h3 => ?_)
      · replace hR := lf_f h3 hR
        refine ev_run (cs := []) (pc' := 42) (L' := [some (.ref 0), some (.int (v1 + 1))]) (st' := []) (w' := W_X5 u) [] 2 (by with_unfolding_all rfl) trivial ?_
        exact ev_to2 (hk42 _ _ hR) ⟨rfl, rfl, trivial⟩ rfl rfl
      · replace hR := lf_t h3 hR
        refine ev_run (cs := []) (pc' := 65) (L' := [some (.ref 0), some (.int v1)]) (st' := [.int 3, .int v1, .ref 0]) (w' := W_X5 u) [] 3 (by with_unfolding_all rfl) trivial ?_
        obtain ⟨y1, h4, hR⟩ := lf_b hR
        refine ev_callV1 0 (t_X5_part F u v1 3 _ h4) cv_X5_part ml_X5_50 rfl rfl rfl (Nat.le_of_ble_eq_true rfl) (by with_unfolding_all rfl) (Nat.le_of_ble_eq_true rfl) ⟨Nat.le_of_ble_eq_true rfl, Nat.le_of_ble_eq_true rfl⟩ ⟨Nat.le_refl _, Nat.le_refl _⟩ ?_ ?_
        · rintro r w ⟨rfl, rfl⟩; rfl
        rintro r w ⟨rfl, rfl⟩
        refine ev_nx (pc' := 68) (st' := [.int y1]) (w' := W_X5 u) rfl rfl (by with_unfolding_all rfl) rfl rfl ?_
        refine ev_run (cs := []) (pc' := 69) (L' := [some (.ref 0), some (.int v1)]) (st' := [.int 1, .int y1]) (w' := W_X5 u) [] 1 (by with_unfolding_all rfl) trivial ?_
        refine ev_br rfl rfl (fun h5 => ?_) (fun h5 => ?_)
        · replace hR := lf_f h5 hR
          refine ev_run (cs := []) (pc' := 42) (L' := [some (.ref 0), some (.int (v1 + 1))]) (st' := []) (w' := W_X5 u) [] 2 (by with_unfolding_all rfl) trivial ?_
          exact ev_to2 (hk42 _ _ hR) ⟨rfl, rfl, trivial⟩ rfl rfl
        · replace hR := lf_t h5 hR
          refine ev_run (cs := []) (pc' := 74) (L' := [some (.ref 0), some (.int v1)]) (st' := [.int v1, .ref 0]) (w' := W_X5 u) [] 2 (by with_unfolding_all rfl) trivial ?_
          obtain ⟨y2, h6, hR⟩ := lf_b hR
          refine ev_callV1 0 (t_X5_tries F u v1 _ h6) cv_X5_tries ml_X5_156 rfl rfl rfl (Nat.le_of_ble_eq_true rfl) (by with_unfolding_all rfl) (Nat.le_of_ble_eq_true rfl) ⟨Nat.le_of_ble_eq_true rfl, Nat.le_of_ble_eq_true rfl⟩ ⟨Nat.le_refl _, Nat.le_refl _⟩ ?_ ?_
          · rintro r w ⟨rfl, rfl⟩; rfl
          rintro r w ⟨rfl, rfl⟩
          refine ev_nx (pc' := 77) (st' := []) (w' := W_X5 y2) rfl rfl (by with_unfolding_all rfl) rfl rfl ?_
          refine ev_run (cs := []) (pc' := 42) (L' := [some (.ref 0), some (.int (v1 + 1))]) (st' := []) (w' := W_X5 y2) [] 2 (by with_unfolding_all rfl) trivial ?_
          exact ev_to2 (hk42 _ _ hR) ⟨rfl, rfl, trivial⟩ rfl rfl

def s_X5_holdTrial_l2 (F : Nat) : Nat → S_X5 → Int32 → Option S_X5
  | 0 => fun _ _ => none
  | n + 1 => fun u v1 => if 24 ≤ v1 then (s_X5_holdTrial_l42 F F u 0) else (if ((a_X5_state u) (1 : Int32).toNatClampNeg) ≤ v1 then (if lf_ix v1 24 then (s_X5_holdTrial_l2 F n (m_X5_isSuspect (upd (a_X5_isSuspect u) v1.toNatClampNeg 0) u) (v1 + 1)) else none) else ((s_X5_part F u v1 3).bind fun y1 => (if lf_ix v1 24 then (s_X5_holdTrial_l2 F n (m_X5_isSuspect (upd (a_X5_isSuspect u) v1.toNatClampNeg y1) u) (v1 + 1)) else none)))
theorem e_X5_holdTrial_l2 (F : Nat) (n : Nat) (u : S_X5) (v1 : Int32) : s_X5_holdTrial_l2 F (n + 1) u v1 = if 24 ≤ v1 then (s_X5_holdTrial_l42 F F u 0) else (if ((a_X5_state u) (1 : Int32).toNatClampNeg) ≤ v1 then (if lf_ix v1 24 then (s_X5_holdTrial_l2 F n (m_X5_isSuspect (upd (a_X5_isSuspect u) v1.toNatClampNeg 0) u) (v1 + 1)) else none) else ((s_X5_part F u v1 3).bind fun y1 => (if lf_ix v1 24 then (s_X5_holdTrial_l2 F n (m_X5_isSuspect (upd (a_X5_isSuspect u) v1.toNatClampNeg y1) u) (v1 + 1)) else none))) := rfl
set_option maxHeartbeats 4000000 in
set_option maxRecDepth 20000 in
theorem t_X5_holdTrial_l2 (F : Nat) (x : S_X5)  : ∀ (n : Nat) (u : S_X5) (v1 : Int32), s_X5_holdTrial_l2 F n u v1 = some x → ev_V mm_X5_holdTrial none (ev_XR mm_X5_holdTrial (fun r w => r = none ∧ w = W_X5 x)) 2 [some (.ref 0), some (.int v1)] [] (W_X5 u) 0 0 := by
  intro n
  induction n with
  | zero => intro u v1 hR; cases hR
  | succ n hk2 =>
    intro u v1 hR
    unfold s_X5_holdTrial_l2 at hR
    refine ev_run (cs := []) (pc' := 5) (L' := [some (.ref 0), some (.int v1)]) (st' := [.int 24, .int v1]) (w' := W_X5 u) [] 2 (by with_unfolding_all rfl) trivial ?_
    refine ev_br rfl rfl (fun h1 => ?_) (fun h1 => ?_)
    · replace hR := lf_t h1 hR
      refine ev_run (cs := []) (pc' := 42) (L' := [some (.ref 0), some (.int 0)]) (st' := []) (w' := W_X5 u) [] 2 (by with_unfolding_all rfl) trivial ?_
      exact ev_to2 (t_X5_holdTrial_l42 F _ F u 0 hR) ⟨rfl, rfl, trivial⟩ rfl rfl
    · replace hR := lf_f h1 hR
      refine ev_run (cs := [lf_ix 1 20377]) (pc' := 20) (L' := [some (.ref 0), some (.int v1)]) (st' := [.int ((a_X5_state u) (1 : Int32).toNatClampNeg), .int v1, .int v1, .ref 8]) (w' := W_X5 u) [] 8 (by with_unfolding_all rfl) (by show ¬ _; decide) ?_
      refine ev_br rfl rfl (fun h2 => ?_) (fun h2 => ?_)
      · replace hR := lf_t h2 hR
        obtain ⟨h3, hR⟩ := lf_g hR
        refine ev_run (cs := [lf_ix v1 24]) (pc' := 2) (L' := [some (.ref 0), some (.int (v1 + 1))]) (st' := []) (w' := W_X5 (m_X5_isSuspect (upd (a_X5_isSuspect u) v1.toNatClampNeg 0) u)) [] 4 (by with_unfolding_all rfl) (h3) ?_
        exact ev_to2 (hk2 _ _ hR) ⟨rfl, rfl, trivial⟩ rfl rfl
      · replace hR := lf_f h2 hR
        refine ev_run (cs := []) (pc' := 26) (L' := [some (.ref 0), some (.int v1)]) (st' := [.int 3, .int v1, .ref 0, .int v1, .ref 8]) (w' := W_X5 u) [] 3 (by with_unfolding_all rfl) trivial ?_
        obtain ⟨y1, h4, hR⟩ := lf_b hR
        refine ev_callV1 0 (t_X5_part F u v1 3 _ h4) cv_X5_part ml_X5_50 rfl rfl rfl (Nat.le_of_ble_eq_true rfl) (by with_unfolding_all rfl) (Nat.le_of_ble_eq_true rfl) ⟨Nat.le_of_ble_eq_true rfl, Nat.le_of_ble_eq_true rfl⟩ ⟨Nat.le_refl _, Nat.le_refl _⟩ ?_ ?_
        · rintro r w ⟨rfl, rfl⟩; rfl
        rintro r w ⟨rfl, rfl⟩
        refine ev_nx (pc' := 29) (st' := [.int y1, .int v1, .ref 8]) (w' := W_X5 u) rfl rfl (by with_unfolding_all rfl) rfl rfl ?_
        obtain ⟨h5, hR⟩ := lf_g hR
        refine ev_run (cs := [lf_ix v1 24]) (pc' := 2) (L' := [some (.ref 0), some (.int (v1 + 1))]) (st' := []) (w' := W_X5 (m_X5_isSuspect (upd (a_X5_isSuspect u) v1.toNatClampNeg y1) u)) [] 4 (by with_unfolding_all rfl) (h5) ?_
        exact ev_to2 (hk2 _ _ hR) ⟨rfl, rfl, trivial⟩ rfl rfl

def s_X5_holdTrial (F : Nat) (u : S_X5) : Option S_X5 := s_X5_holdTrial_l2 F F u 0
set_option maxHeartbeats 4000000 in
set_option maxRecDepth 20000 in
theorem t_X5_holdTrial (F : Nat) (u : S_X5) (x : S_X5) (hR : s_X5_holdTrial F u = some x) : ev_A yX5_holdTrial mm_X5_holdTrial none [.ref 0] (W_X5 u) (fun r w => r = none ∧ w = W_X5 x) := by
  unfold s_X5_holdTrial at hR
  refine ev_start ok_X5_holdTrial (by decide +kernel) rfl rfl (Nat.le_of_ble_eq_true rfl) ?_
  refine ev_run (cs := []) (pc' := 2) (L' := [some (.ref 0), some (.int 0)]) (st' := []) (w' := W_X5 u) [] 2 (by with_unfolding_all rfl) trivial ?_
  exact ev_to2 (t_X5_holdTrial_l2 F _ F u 0 hR) ⟨rfl, rfl, trivial⟩ rfl rfl

def s_X5_tick (F : Nat) (u : S_X5) : Option S_X5 := (s_X5_hearDue F (m_X5_state (upd (a_X5_state u) (0 : Int32).toNatClampNeg (((a_X5_state u) (0 : Int32).toNatClampNeg) + 1)) u)).bind fun y1 => (if ((a_X5_state y1) (12 : Int32).toNatClampNeg) = 0 then (some (y1)) else (if ¬ ((a_X5_state y1) (12 : Int32).toNatClampNeg) = 0 then (if (((a_X5_state y1) (0 : Int32).toNatClampNeg) - ((a_X5_state y1) (0 : Int32).toNatClampNeg) / ((a_X5_state y1) (12 : Int32).toNatClampNeg) * ((a_X5_state y1) (12 : Int32).toNatClampNeg)) = 0 then ((s_X5_holdTrial F y1).bind fun y2 => (some (y2))) else (some (y1))) else none))
set_option maxHeartbeats 4000000 in
set_option maxRecDepth 20000 in
theorem t_X5_tick (F : Nat) (u : S_X5) (x : S_X5) (hR : s_X5_tick F u = some x) : ev_A yX5_tick mm_X5_tick none [.ref 0] (W_X5 u) (fun r w => r = none ∧ w = W_X5 x) := by
  unfold s_X5_tick at hR
  refine ev_start ok_X5_tick (by decide +kernel) rfl rfl (Nat.le_of_ble_eq_true rfl) ?_
  refine ev_run (cs := [lf_ix 0 20377, lf_ix 0 20377]) (pc' := 11) (L' := [some (.ref 0)]) (st' := [.ref 0]) (w' := W_X5 (m_X5_state (upd (a_X5_state u) (0 : Int32).toNatClampNeg (((a_X5_state u) (0 : Int32).toNatClampNeg) + 1)) u)) [] 9 (by with_unfolding_all rfl) ⟨by show ¬ _; decide, by show ¬ _; decide⟩ ?_
  obtain ⟨y1, h1, hR⟩ := lf_b hR
  refine ev_callV1 0 (t_X5_hearDue F (m_X5_state (upd (a_X5_state u) (0 : Int32).toNatClampNeg (((a_X5_state u) (0 : Int32).toNatClampNeg) + 1)) u) _ h1) cv_X5_hearDue ml_X5_117 rfl rfl rfl (Nat.le_of_ble_eq_true rfl) (by with_unfolding_all rfl) (Nat.le_of_ble_eq_true rfl) ⟨Nat.le_of_ble_eq_true rfl, Nat.le_of_ble_eq_true rfl⟩ ⟨Nat.le_refl _, Nat.le_refl _⟩ ?_ ?_
  · rintro r w ⟨rfl, rfl⟩; rfl
  rintro r w ⟨rfl, rfl⟩
  refine ev_nx (pc' := 14) (st' := []) (w' := W_X5 y1) rfl rfl (by with_unfolding_all rfl) rfl rfl ?_
  refine ev_run (cs := [lf_ix 12 20377]) (pc' := 21) (L' := [some (.ref 0)]) (st' := [.int ((a_X5_state y1) (12 : Int32).toNatClampNeg)]) (w' := W_X5 y1) [] 4 (by with_unfolding_all rfl) (by show ¬ _; decide) ?_
  refine ev_br rfl rfl (fun h2 => ?_) (fun h2 => ?_)
  · replace hR := lf_t h2 hR
    cases hR
    exact ev_exit ⟨_, _, rfl, ⟨rfl, rfl⟩, ⟨rfl, rfl⟩, Nat.le_refl _, Nat.le_refl _⟩
  · replace hR := lf_f h2 hR
    obtain ⟨h3, hR⟩ := lf_g hR
    refine ev_run (cs := [lf_ix 0 20377, lf_ix 12 20377, ¬ ((a_X5_state y1) (12 : Int32).toNatClampNeg) = 0]) (pc' := 38) (L' := [some (.ref 0)]) (st' := [.int (((a_X5_state y1) (0 : Int32).toNatClampNeg) - ((a_X5_state y1) (0 : Int32).toNatClampNeg) / ((a_X5_state y1) (12 : Int32).toNatClampNeg) * ((a_X5_state y1) (12 : Int32).toNatClampNeg))]) (w' := W_X5 y1) [] 9 (by with_unfolding_all rfl) ⟨by show ¬ _; decide, by show ¬ _; decide, h3⟩ ?_
    refine ev_br rfl rfl (fun h4 => ?_) (fun h4 => ?_)
    · replace hR := lf_f h4 hR
      cases hR
      exact ev_exit ⟨_, _, rfl, ⟨rfl, rfl⟩, ⟨rfl, rfl⟩, Nat.le_refl _, Nat.le_refl _⟩
    · replace hR := lf_t h4 hR
      refine ev_run (cs := []) (pc' := 42) (L' := [some (.ref 0)]) (st' := [.ref 0]) (w' := W_X5 y1) [] 1 (by with_unfolding_all rfl) trivial ?_
      obtain ⟨y2, h5, hR⟩ := lf_b hR
      refine ev_callV1 0 (t_X5_holdTrial F y1 _ h5) cv_X5_holdTrial ml_X5_159 rfl rfl rfl (Nat.le_of_ble_eq_true rfl) (by with_unfolding_all rfl) (Nat.le_of_ble_eq_true rfl) ⟨Nat.le_of_ble_eq_true rfl, Nat.le_of_ble_eq_true rfl⟩ ⟨Nat.le_refl _, Nat.le_refl _⟩ ?_ ?_
      · rintro r w ⟨rfl, rfl⟩; rfl
      rintro r w ⟨rfl, rfl⟩
      refine ev_nx (pc' := 45) (st' := []) (w' := W_X5 y2) rfl rfl (by with_unfolding_all rfl) rfl rfl ?_
      cases hR
      exact ev_exit ⟨_, _, rfl, ⟨rfl, rfl⟩, ⟨rfl, rfl⟩, Nat.le_refl _, Nat.le_refl _⟩

def s_X5_passed_l9 (F : Nat) (v1 : Int32) (v2 : Int32) : Nat → S_X5 → Int32 → Option (Int32 × S_X5)
  | 0 => fun _ _ => none
  | n + 1 => fun u v3 => if v1 ≤ v3 then (some (((a_X5_state u) (4 : Int32).toNatClampNeg) - v2, u)) else ((s_X5_tick F u).bind fun y1 => (s_X5_passed_l9 F v1 v2 n y1 (v3 + 1)))
theorem e_X5_passed_l9 (F : Nat) (v1 : Int32) (v2 : Int32) (n : Nat) (u : S_X5) (v3 : Int32) : s_X5_passed_l9 F v1 v2 (n + 1) u v3 = if v1 ≤ v3 then (some (((a_X5_state u) (4 : Int32).toNatClampNeg) - v2, u)) else ((s_X5_tick F u).bind fun y1 => (s_X5_passed_l9 F v1 v2 n y1 (v3 + 1))) := rfl
set_option maxHeartbeats 4000000 in
set_option maxRecDepth 20000 in
theorem t_X5_passed_l9 (F : Nat) (v1 : Int32) (v2 : Int32) (x : (Int32 × S_X5))  : ∀ (n : Nat) (u : S_X5) (v3 : Int32), s_X5_passed_l9 F v1 v2 n u v3 = some x → ev_V mm_X5_passed none (ev_XR mm_X5_passed (fun r w => r = some (.int x.1) ∧ w = W_X5 x.2)) 9 [some (.ref 0), some (.int v1), some (.int v2), some (.int v3)] [] (W_X5 u) 0 0 := by
  intro n
  induction n with
  | zero => intro u v3 hR; cases hR
  | succ n hk9 =>
    intro u v3 hR
    unfold s_X5_passed_l9 at hR
    refine ev_run (cs := []) (pc' := 11) (L' := [some (.ref 0), some (.int v1), some (.int v2), some (.int v3)]) (st' := [.int v1, .int v3]) (w' := W_X5 u) [] 2 (by with_unfolding_all rfl) trivial ?_
    refine ev_br rfl rfl (fun h1 => ?_) (fun h1 => ?_)
    · replace hR := lf_t h1 hR
      refine ev_run (cs := [lf_ix 4 20377]) (pc' := 32) (L' := [some (.ref 0), some (.int v1), some (.int v2), some (.int v3)]) (st' := [.int (((a_X5_state u) (4 : Int32).toNatClampNeg) - v2)]) (w' := W_X5 u) [] 6 (by with_unfolding_all rfl) (by show ¬ _; decide) ?_
      cases hR
      exact ev_exit ⟨_, _, rfl, ⟨rfl, Or.inl rfl⟩, ⟨rfl, rfl⟩, Nat.le_refl _, Nat.le_refl _⟩
    · replace hR := lf_f h1 hR
      refine ev_run (cs := []) (pc' := 15) (L' := [some (.ref 0), some (.int v1), some (.int v2), some (.int v3)]) (st' := [.ref 0]) (w' := W_X5 u) [] 1 (by with_unfolding_all rfl) trivial ?_
      obtain ⟨y1, h2, hR⟩ := lf_b hR
      refine ev_callV1 0 (t_X5_tick F u _ h2) cv_X5_tick ml_X5_162 rfl rfl rfl (Nat.le_of_ble_eq_true rfl) (by with_unfolding_all rfl) (Nat.le_of_ble_eq_true rfl) ⟨Nat.le_of_ble_eq_true rfl, Nat.le_of_ble_eq_true rfl⟩ ⟨Nat.le_refl _, Nat.le_refl _⟩ ?_ ?_
      · rintro r w ⟨rfl, rfl⟩; rfl
      rintro r w ⟨rfl, rfl⟩
      refine ev_nx (pc' := 18) (st' := []) (w' := W_X5 y1) rfl rfl (by with_unfolding_all rfl) rfl rfl ?_
      refine ev_run (cs := []) (pc' := 9) (L' := [some (.ref 0), some (.int v1), some (.int v2), some (.int (v3 + 1))]) (st' := []) (w' := W_X5 y1) [] 2 (by with_unfolding_all rfl) trivial ?_
      exact ev_to2 (hk9 _ _ hR) ⟨rfl, rfl, rfl, rfl, trivial⟩ rfl rfl

def s_X5_passed (F : Nat) (u : S_X5) (v1 : Int32) : Option (Int32 × S_X5) := s_X5_passed_l9 F v1 ((a_X5_state u) (4 : Int32).toNatClampNeg) F u 0
set_option maxHeartbeats 4000000 in
set_option maxRecDepth 20000 in
theorem t_X5_passed (F : Nat) (u : S_X5) (v1 : Int32) (x : (Int32 × S_X5)) (hR : s_X5_passed F u v1 = some x) : ev_A yX5_passed mm_X5_passed none [.ref 0, .int v1] (W_X5 u) (fun r w => r = some (.int x.1) ∧ w = W_X5 x.2) := by
  unfold s_X5_passed at hR
  refine ev_start ok_X5_passed (by decide +kernel) rfl rfl (Nat.le_of_ble_eq_true rfl) ?_
  refine ev_run (cs := [lf_ix 4 20377]) (pc' := 9) (L' := [some (.ref 0), some (.int v1), some (.int ((a_X5_state u) (4 : Int32).toNatClampNeg)), some (.int 0)]) (st' := []) (w' := W_X5 u) [] 7 (by with_unfolding_all rfl) (by show ¬ _; decide) ?_
  exact ev_to2 (t_X5_passed_l9 F v1 ((a_X5_state u) (4 : Int32).toNatClampNeg) _ F u 0 hR) ⟨rfl, rfl, rfl, rfl, trivial⟩ rfl rfl

def s_X5_whyNotPassed (F : Nat) (u : S_X5) (v1 : Int32) : Option Int32 := (s_X5_within F v1 1 100).bind fun y1 => (if y1 then (if (((a_X5_state u) (0 : Int32).toNatClampNeg) + v1) ≤ 5000 then (some (0)) else (some (2))) else (some (1)))
set_option maxHeartbeats 4000000 in
set_option maxRecDepth 20000 in
theorem t_X5_whyNotPassed (F : Nat) (u : S_X5) (v1 : Int32) (x : Int32) (hR : s_X5_whyNotPassed F u v1 = some x) : ev_A yX5_whyNotPassed mm_X5_whyNotPassed none [.ref 0, .int v1] (W_X5 u) (fun r w => r = some (.int x) ∧ w = W_X5 u) := by
  unfold s_X5_whyNotPassed at hR
  refine ev_start ok_X5_whyNotPassed (by decide +kernel) rfl rfl (Nat.le_of_ble_eq_true rfl) ?_
  refine ev_run (cs := []) (pc' := 4) (L' := [some (.ref 0), some (.int v1)]) (st' := [.int 100, .int 1, .int v1]) (w' := W_X5 u) [] 3 (by with_unfolding_all rfl) trivial ?_
  obtain ⟨y1, h1, hR⟩ := lf_b hR
  refine ev_callS1 0 (t_X5_within F v1 1 100 _ h1) cs_X5_within ml_X5_46 rfl rfl rfl (Nat.le_of_ble_eq_true rfl) (by with_unfolding_all rfl) (Nat.le_of_ble_eq_true rfl) ⟨Nat.le_of_ble_eq_true rfl, Nat.le_of_ble_eq_true rfl⟩ ⟨Nat.le_refl _, Nat.le_refl _⟩ ?_ ?_
  · rintro r w ⟨rfl, rfl⟩; rfl
  rintro r w ⟨rfl, rfl⟩
  refine ev_nx (pc' := 7) (st' := [.int (ev_b y1)]) (w' := W_X5 u) rfl rfl (by with_unfolding_all rfl) rfl rfl ?_
  refine ev_br rfl rfl (fun h2 => ?_) (fun h2 => ?_)
  · replace hR := lf_z1 h2 hR
    refine ev_run (cs := [lf_ix 0 20377]) (pc' := 25) (L' := [some (.ref 0), some (.int v1)]) (st' := [.int 5000, .int (((a_X5_state u) (0 : Int32).toNatClampNeg) + v1)]) (w' := W_X5 u) [] 7 (by with_unfolding_all rfl) (by show ¬ _; decide) ?_
    refine ev_br rfl rfl (fun h3 => ?_) (fun h3 => ?_)
    · replace hR := lf_t h3 hR
      refine ev_run (cs := []) (pc' := 33) (L' := [some (.ref 0), some (.int v1)]) (st' := [.int 0]) (w' := W_X5 u) [] 1 (by with_unfolding_all rfl) trivial ?_
      cases hR
      exact ev_exit ⟨_, _, rfl, ⟨rfl, Or.inl rfl⟩, ⟨rfl, rfl⟩, Nat.le_refl _, Nat.le_refl _⟩
    · replace hR := lf_f h3 hR
      refine ev_run (cs := []) (pc' := 33) (L' := [some (.ref 0), some (.int v1)]) (st' := [.int 2]) (w' := W_X5 u) [] 2 (by with_unfolding_all rfl) trivial ?_
      cases hR
      exact ev_exit ⟨_, _, rfl, ⟨rfl, Or.inl rfl⟩, ⟨rfl, rfl⟩, Nat.le_refl _, Nat.le_refl _⟩
  · replace hR := lf_z0 h2 hR
    refine ev_run (cs := []) (pc' := 33) (L' := [some (.ref 0), some (.int v1)]) (st' := [.int 1]) (w' := W_X5 u) [] 2 (by with_unfolding_all rfl) trivial ?_
    cases hR
    exact ev_exit ⟨_, _, rfl, ⟨rfl, Or.inl rfl⟩, ⟨rfl, rfl⟩, Nat.le_refl _, Nat.le_refl _⟩

def s_X5_pass (F : Nat) (u : S_X5) (v1 : Int32) : Option (Int32 × S_X5) := (s_X5_whyNotPassed F u v1).bind fun y1 => (if y1 ≤ 0 then ((s_X5_save F (m_X5_thrown y1 u)).bind fun y2 => ((s_X5_passed F y2 v1).bind fun y3 => (some (y3.1, y3.2)))) else (some (0, m_X5_thrown y1 u)))
set_option maxHeartbeats 4000000 in
set_option maxRecDepth 20000 in
theorem t_X5_pass (F : Nat) (u : S_X5) (v1 : Int32) (x : (Int32 × S_X5)) (hR : s_X5_pass F u v1 = some x) : ev_A yX5_pass mm_X5_pass none [.ref 0, .int v1] (W_X5 u) (fun r w => r = some (.int x.1) ∧ w = W_X5 x.2) := by
  unfold s_X5_pass at hR
  refine ev_start ok_X5_pass (by decide +kernel) rfl rfl (Nat.le_of_ble_eq_true rfl) ?_
  refine ev_run (cs := []) (pc' := 3) (L' := [some (.ref 0), some (.int v1)]) (st' := [.int v1, .ref 0, .ref 0]) (w' := W_X5 u) [] 3 (by with_unfolding_all rfl) trivial ?_
  obtain ⟨y1, h1, hR⟩ := lf_b hR
  refine ev_callV1 0 (t_X5_whyNotPassed F u v1 _ h1) cv_X5_whyNotPassed ml_X5_165 rfl rfl rfl (Nat.le_of_ble_eq_true rfl) (by with_unfolding_all rfl) (Nat.le_of_ble_eq_true rfl) ⟨Nat.le_of_ble_eq_true rfl, Nat.le_of_ble_eq_true rfl⟩ ⟨Nat.le_refl _, Nat.le_refl _⟩ ?_ ?_
  · rintro r w ⟨rfl, rfl⟩; rfl
  rintro r w ⟨rfl, rfl⟩
  refine ev_nx (pc' := 6) (st' := [.int y1, .ref 0]) (w' := W_X5 u) rfl rfl (by with_unfolding_all rfl) rfl rfl ?_
  refine ev_run (cs := []) (pc' := 13) (L' := [some (.ref 0), some (.int v1)]) (st' := [.int y1]) (w' := W_X5 (m_X5_thrown y1 u)) [] 3 (by with_unfolding_all rfl) trivial ?_
  refine ev_br rfl rfl (fun h2 => ?_) (fun h2 => ?_)
  · replace hR := lf_t h2 hR
    refine ev_run (cs := []) (pc' := 19) (L' := [some (.ref 0), some (.int v1)]) (st' := [.ref 0]) (w' := W_X5 (m_X5_thrown y1 u)) [] 1 (by with_unfolding_all rfl) trivial ?_
    obtain ⟨y2, h3, hR⟩ := lf_b hR
    refine ev_callV1 0 (t_X5_save F (m_X5_thrown y1 u) _ h3) cv_X5_save ml_X5_108 rfl rfl rfl (Nat.le_of_ble_eq_true rfl) (by with_unfolding_all rfl) (Nat.le_of_ble_eq_true rfl) ⟨Nat.le_of_ble_eq_true rfl, Nat.le_of_ble_eq_true rfl⟩ ⟨Nat.le_refl _, Nat.le_refl _⟩ ?_ ?_
    · rintro r w ⟨rfl, rfl⟩; rfl
    rintro r w ⟨rfl, rfl⟩
    refine ev_nx (pc' := 22) (st' := []) (w' := W_X5 y2) rfl rfl (by with_unfolding_all rfl) rfl rfl ?_
    refine ev_run (cs := []) (pc' := 24) (L' := [some (.ref 0), some (.int v1)]) (st' := [.int v1, .ref 0]) (w' := W_X5 y2) [] 2 (by with_unfolding_all rfl) trivial ?_
    obtain ⟨y3, h4, hR⟩ := lf_b hR
    refine ev_callV1 0 (t_X5_passed F y2 v1 _ h4) cv_X5_passed ml_X5_168 rfl rfl rfl (Nat.le_of_ble_eq_true rfl) (by with_unfolding_all rfl) (Nat.le_of_ble_eq_true rfl) ⟨Nat.le_of_ble_eq_true rfl, Nat.le_of_ble_eq_true rfl⟩ ⟨Nat.le_refl _, Nat.le_refl _⟩ ?_ ?_
    · rintro r w ⟨rfl, rfl⟩; rfl
    rintro r w ⟨rfl, rfl⟩
    refine ev_nx (pc' := 27) (st' := [.int y3.1]) (w' := W_X5 y3.2) rfl rfl (by with_unfolding_all rfl) rfl rfl ?_
    cases hR
    exact ev_exit ⟨_, _, rfl, ⟨rfl, Or.inl rfl⟩, ⟨rfl, rfl⟩, Nat.le_refl _, Nat.le_refl _⟩
  · replace hR := lf_f h2 hR
    refine ev_run (cs := []) (pc' := 17) (L' := [some (.ref 0), some (.int v1)]) (st' := [.int 0]) (w' := W_X5 (m_X5_thrown y1 u)) [] 1 (by with_unfolding_all rfl) trivial ?_
    cases hR
    exact ev_exit ⟨_, _, rfl, ⟨rfl, Or.inl rfl⟩, ⟨rfl, rfl⟩, Nat.le_refl _, Nat.le_refl _⟩

def s_X5_trial (F : Nat) (u : S_X5) : Option (Int32 × S_X5) := (s_X5_save F (m_X5_thrown 0 u)).bind fun y1 => ((s_X5_holdTrial F y1).bind fun y2 => (some (((a_X5_state y2) (4 : Int32).toNatClampNeg) - ((a_X5_state y1) (4 : Int32).toNatClampNeg), y2)))
set_option maxHeartbeats 4000000 in
set_option maxRecDepth 20000 in
theorem t_X5_trial (F : Nat) (u : S_X5) (x : (Int32 × S_X5)) (hR : s_X5_trial F u = some x) : ev_A yX5_trial mm_X5_trial none [.ref 0] (W_X5 u) (fun r w => r = some (.int x.1) ∧ w = W_X5 x.2) := by
  unfold s_X5_trial at hR
  refine ev_start ok_X5_trial (by decide +kernel) rfl rfl (Nat.le_of_ble_eq_true rfl) ?_
  refine ev_run (cs := []) (pc' := 6) (L' := [some (.ref 0), none]) (st' := [.ref 0]) (w' := W_X5 (m_X5_thrown 0 u)) [] 4 (by with_unfolding_all rfl) trivial ?_
  obtain ⟨y1, h1, hR⟩ := lf_b hR
  refine ev_callV1 0 (t_X5_save F (m_X5_thrown 0 u) _ h1) cv_X5_save ml_X5_108 rfl rfl rfl (Nat.le_of_ble_eq_true rfl) (by with_unfolding_all rfl) (Nat.le_of_ble_eq_true rfl) ⟨Nat.le_of_ble_eq_true rfl, Nat.le_of_ble_eq_true rfl⟩ ⟨Nat.le_refl _, Nat.le_refl _⟩ ?_ ?_
  · rintro r w ⟨rfl, rfl⟩; rfl
  rintro r w ⟨rfl, rfl⟩
  refine ev_nx (pc' := 9) (st' := []) (w' := W_X5 y1) rfl rfl (by with_unfolding_all rfl) rfl rfl ?_
  refine ev_run (cs := [lf_ix 4 20377]) (pc' := 17) (L' := [some (.ref 0), some (.int ((a_X5_state y1) (4 : Int32).toNatClampNeg))]) (st' := [.ref 0]) (w' := W_X5 y1) [] 6 (by with_unfolding_all rfl) (by show ¬ _; decide) ?_
  obtain ⟨y2, h2, hR⟩ := lf_b hR
  refine ev_callV1 0 (t_X5_holdTrial F y1 _ h2) cv_X5_holdTrial ml_X5_159 rfl rfl rfl (Nat.le_of_ble_eq_true rfl) (by with_unfolding_all rfl) (Nat.le_of_ble_eq_true rfl) ⟨Nat.le_of_ble_eq_true rfl, Nat.le_of_ble_eq_true rfl⟩ ⟨Nat.le_refl _, Nat.le_refl _⟩ ?_ ?_
  · rintro r w ⟨rfl, rfl⟩; rfl
  rintro r w ⟨rfl, rfl⟩
  refine ev_nx (pc' := 20) (st' := []) (w' := W_X5 y2) rfl rfl (by with_unfolding_all rfl) rfl rfl ?_
  refine ev_run (cs := [lf_ix 4 20377]) (pc' := 28) (L' := [some (.ref 0), some (.int ((a_X5_state y1) (4 : Int32).toNatClampNeg))]) (st' := [.int (((a_X5_state y2) (4 : Int32).toNatClampNeg) - ((a_X5_state y1) (4 : Int32).toNatClampNeg))]) (w' := W_X5 y2) [] 6 (by with_unfolding_all rfl) (by show ¬ _; decide) ?_
  cases hR
  exact ev_exit ⟨_, _, rfl, ⟨rfl, Or.inl rfl⟩, ⟨rfl, rfl⟩, Nat.le_refl _, Nat.le_refl _⟩

def s_X5_audit_b59 (F : Nat) (k13 : S_X5 → Int32 → Int32 → Option (Int32 × S_X5)) (u : S_X5) (v2 : Int32) (v3 : Int32) (p0 : Int32) (p1 : Int32) : Option (Int32 × S_X5) := (s_X5_setPart F u v2 2 v3).bind fun y1 => (k13 y1 (p0 + p1) (v2 + 1))
set_option maxHeartbeats 4000000 in
set_option maxRecDepth 20000 in
theorem t_X5_audit_b59 (F : Nat) (k13 : S_X5 → Int32 → Int32 → Option (Int32 × S_X5)) (u : S_X5) (v2 : Int32) (v3 : Int32) (p0 : Int32) (p1 : Int32) (x : (Int32 × S_X5)) (hk13 : ∀ (u : S_X5) (v1 : Int32) (v2 : Int32), k13 u v1 v2 = some x → ev_V mm_X5_audit none (ev_XR mm_X5_audit (fun r w => r = some (.int x.1) ∧ w = W_X5 x.2)) 13 [some (.ref 0), some (.int v1), some (.int v2), none] [] (W_X5 u) 0 0) (hR : s_X5_audit_b59 F k13 u v2 v3 p0 p1 = some x) : ev_V mm_X5_audit none (ev_XR mm_X5_audit (fun r w => r = some (.int x.1) ∧ w = W_X5 x.2)) 59 [some (.ref 0), none, some (.int v2), some (.int v3)] [.int p1, .int p0] (W_X5 u) 0 0 := by
  unfold s_X5_audit_b59 at hR
  refine ev_run (cs := []) (pc' := 65) (L' := [some (.ref 0), some (.int (p0 + p1)), some (.int v2), some (.int v3)]) (st' := [.int v3, .int 2, .int v2, .ref 0]) (w' := W_X5 u) [] 6 (by with_unfolding_all rfl) trivial ?_
  obtain ⟨y1, h1, hR⟩ := lf_b hR
  refine ev_callV1 0 (t_X5_setPart F u v2 2 v3 _ h1) cv_X5_setPart ml_X5_71 rfl rfl rfl (Nat.le_of_ble_eq_true rfl) (by with_unfolding_all rfl) (Nat.le_of_ble_eq_true rfl) ⟨Nat.le_of_ble_eq_true rfl, Nat.le_of_ble_eq_true rfl⟩ ⟨Nat.le_refl _, Nat.le_refl _⟩ ?_ ?_
  · rintro r w ⟨rfl, rfl⟩; rfl
  rintro r w ⟨rfl, rfl⟩
  refine ev_nx (pc' := 68) (st' := []) (w' := W_X5 y1) rfl rfl (by with_unfolding_all rfl) rfl rfl ?_
  refine ev_run (cs := []) (pc' := 13) (L' := [some (.ref 0), some (.int (p0 + p1)), some (.int (v2 + 1)), some (.int v3)]) (st' := []) (w' := W_X5 y1) [] 2 (by with_unfolding_all rfl) trivial ?_
  exact ev_to2 (hk13 _ _ _ hR) ⟨rfl, rfl, rfl, trivial⟩ rfl rfl

def s_X5_audit_l13 (F : Nat) : Nat → S_X5 → Int32 → Int32 → Option (Int32 × S_X5)
  | 0 => fun _ _ _ => none
  | n + 1 => fun u v1 v2 => if ((a_X5_state u) (1 : Int32).toNatClampNeg) ≤ v2 then (some (v1, u)) else ((s_X5_lives F u v2).bind fun y1 => (if y1 then ((s_X5_truth F u v2).bind fun y2 => ((s_X5_sumUnderWay F u v2).bind fun y3 => ((s_X5_part F u v2 2).bind fun y4 => (if (y2 - y3) = y4 then (s_X5_audit_b59 F (s_X5_audit_l13 F n) u v2 (y2 - y3) v1 0) else (s_X5_audit_b59 F (s_X5_audit_l13 F n) u v2 (y2 - y3) v1 1))))) else (s_X5_audit_l13 F n u v1 (v2 + 1))))
theorem e_X5_audit_l13 (F : Nat) (n : Nat) (u : S_X5) (v1 : Int32) (v2 : Int32) : s_X5_audit_l13 F (n + 1) u v1 v2 = if ((a_X5_state u) (1 : Int32).toNatClampNeg) ≤ v2 then (some (v1, u)) else ((s_X5_lives F u v2).bind fun y1 => (if y1 then ((s_X5_truth F u v2).bind fun y2 => ((s_X5_sumUnderWay F u v2).bind fun y3 => ((s_X5_part F u v2 2).bind fun y4 => (if (y2 - y3) = y4 then (s_X5_audit_b59 F (s_X5_audit_l13 F n) u v2 (y2 - y3) v1 0) else (s_X5_audit_b59 F (s_X5_audit_l13 F n) u v2 (y2 - y3) v1 1))))) else (s_X5_audit_l13 F n u v1 (v2 + 1)))) := rfl
set_option maxHeartbeats 4000000 in
set_option maxRecDepth 20000 in
theorem t_X5_audit_l13 (F : Nat) (x : (Int32 × S_X5))  : ∀ (n : Nat) (u : S_X5) (v1 : Int32) (v2 : Int32), s_X5_audit_l13 F n u v1 v2 = some x → ev_V mm_X5_audit none (ev_XR mm_X5_audit (fun r w => r = some (.int x.1) ∧ w = W_X5 x.2)) 13 [some (.ref 0), some (.int v1), some (.int v2), none] [] (W_X5 u) 0 0 := by
  intro n
  induction n with
  | zero => intro u v1 v2 hR; cases hR
  | succ n hk13 =>
    intro u v1 v2 hR
    unfold s_X5_audit_l13 at hR
    refine ev_run (cs := [lf_ix 1 20377]) (pc' := 20) (L' := [some (.ref 0), some (.int v1), some (.int v2), none]) (st' := [.int ((a_X5_state u) (1 : Int32).toNatClampNeg), .int v2]) (w' := W_X5 u) [] 5 (by with_unfolding_all rfl) (by show ¬ _; decide) ?_
    refine ev_br rfl rfl (fun h1 => ?_) (fun h1 => ?_)
    · replace hR := lf_t h1 hR
      refine ev_run (cs := []) (pc' := 75) (L' := [some (.ref 0), some (.int v1), some (.int v2), none]) (st' := [.int v1]) (w' := W_X5 u) [] 1 (by with_unfolding_all rfl) trivial ?_
      cases hR
      exact ev_exit ⟨_, _, rfl, ⟨rfl, Or.inl rfl⟩, ⟨rfl, rfl⟩, Nat.le_refl _, Nat.le_refl _⟩
    · replace hR := lf_f h1 hR
      refine ev_run (cs := []) (pc' := 25) (L' := [some (.ref 0), some (.int v1), some (.int v2), none]) (st' := [.int v2, .ref 0]) (w' := W_X5 u) [] 2 (by with_unfolding_all rfl) trivial ?_
      obtain ⟨y1, h2, hR⟩ := lf_b hR
      refine ev_callV1 0 (t_X5_lives F u v2 _ h2) cv_X5_lives ml_X5_54 rfl rfl rfl (Nat.le_of_ble_eq_true rfl) (by with_unfolding_all rfl) (Nat.le_of_ble_eq_true rfl) ⟨Nat.le_of_ble_eq_true rfl, Nat.le_of_ble_eq_true rfl⟩ ⟨Nat.le_refl _, Nat.le_refl _⟩ ?_ ?_
      · rintro r w ⟨rfl, rfl⟩; rfl
      rintro r w ⟨rfl, rfl⟩
      refine ev_nx (pc' := 28) (st' := [.int (ev_b y1)]) (w' := W_X5 u) rfl rfl (by with_unfolding_all rfl) rfl rfl ?_
      refine ev_br rfl rfl (fun h3 => ?_) (fun h3 => ?_)
      · replace hR := lf_z0 h3 hR
        refine ev_run (cs := []) (pc' := 13) (L' := [some (.ref 0), some (.int v1), some (.int (v2 + 1)), none]) (st' := []) (w' := W_X5 u) [] 2 (by with_unfolding_all rfl) trivial ?_
        exact ev_to2 (hk13 _ _ _ hR) ⟨rfl, rfl, rfl, trivial⟩ rfl rfl
      · replace hR := lf_z1 h3 hR
        refine ev_run (cs := []) (pc' := 33) (L' := [some (.ref 0), some (.int v1), some (.int v2), none]) (st' := [.int v2, .ref 0]) (w' := W_X5 u) [] 2 (by with_unfolding_all rfl) trivial ?_
        obtain ⟨y2, h4, hR⟩ := lf_b hR
        refine ev_callV1 0 (t_X5_truth F u v2 _ h4) cv_X5_truth ml_X5_91 rfl rfl rfl (Nat.le_of_ble_eq_true rfl) (by with_unfolding_all rfl) (Nat.le_of_ble_eq_true rfl) ⟨Nat.le_of_ble_eq_true rfl, Nat.le_of_ble_eq_true rfl⟩ ⟨Nat.le_refl _, Nat.le_refl _⟩ ?_ ?_
        · rintro r w ⟨rfl, rfl⟩; rfl
        rintro r w ⟨rfl, rfl⟩
        refine ev_nx (pc' := 36) (st' := [.int y2]) (w' := W_X5 u) rfl rfl (by with_unfolding_all rfl) rfl rfl ?_
        refine ev_run (cs := []) (pc' := 38) (L' := [some (.ref 0), some (.int v1), some (.int v2), none]) (st' := [.int v2, .ref 0, .int y2]) (w' := W_X5 u) [] 2 (by with_unfolding_all rfl) trivial ?_
        obtain ⟨y3, h5, hR⟩ := lf_b hR
        refine ev_callV1 0 (t_X5_sumUnderWay F u v2 _ h5) cv_X5_sumUnderWay ml_X5_171 rfl rfl rfl (Nat.le_of_ble_eq_true rfl) (by with_unfolding_all rfl) (Nat.le_of_ble_eq_true rfl) ⟨Nat.le_of_ble_eq_true rfl, Nat.le_of_ble_eq_true rfl⟩ ⟨Nat.le_refl _, Nat.le_refl _⟩ ?_ ?_
        · rintro r w ⟨rfl, rfl⟩; rfl
        rintro r w ⟨rfl, rfl⟩
        refine ev_nx (pc' := 41) (st' := [.int y3, .int y2]) (w' := W_X5 u) rfl rfl (by with_unfolding_all rfl) rfl rfl ?_
        refine ev_run (cs := []) (pc' := 48) (L' := [some (.ref 0), some (.int v1), some (.int v2), some (.int (y2 - y3))]) (st' := [.int 2, .int v2, .ref 0, .int (y2 - y3), .int v1]) (w' := W_X5 u) [] 7 (by with_unfolding_all rfl) trivial ?_
        obtain ⟨y4, h6, hR⟩ := lf_b hR
        refine ev_callV1 0 (t_X5_part F u v2 2 _ h6) cv_X5_part ml_X5_50 rfl rfl rfl (Nat.le_of_ble_eq_true rfl) (by with_unfolding_all rfl) (Nat.le_of_ble_eq_true rfl) ⟨Nat.le_of_ble_eq_true rfl, Nat.le_of_ble_eq_true rfl⟩ ⟨Nat.le_refl _, Nat.le_refl _⟩ ?_ ?_
        · rintro r w ⟨rfl, rfl⟩; rfl
        rintro r w ⟨rfl, rfl⟩
        refine ev_nx (pc' := 51) (st' := [.int y4, .int (y2 - y3), .int v1]) (w' := W_X5 u) rfl rfl (by with_unfolding_all rfl) rfl rfl ?_
        refine ev_br rfl rfl (fun h7 => ?_) (fun h7 => ?_)
        · replace hR := lf_f h7 hR
          refine ev_run (cs := []) (pc' := 59) (L' := [some (.ref 0), some (.int v1), some (.int v2), some (.int (y2 - y3))]) (st' := [.int 1, .int v1]) (w' := W_X5 u) [] 1 (by with_unfolding_all rfl) trivial ?_
          exact ev_to2 (t_X5_audit_b59 F (s_X5_audit_l13 F n) u v2 (y2 - y3) v1 1 _ hk13 hR) ⟨rfl, rfl, rfl, trivial⟩ rfl rfl
        · replace hR := lf_t h7 hR
          refine ev_run (cs := []) (pc' := 59) (L' := [some (.ref 0), some (.int v1), some (.int v2), some (.int (y2 - y3))]) (st' := [.int 0, .int v1]) (w' := W_X5 u) [] 2 (by with_unfolding_all rfl) trivial ?_
          exact ev_to2 (t_X5_audit_b59 F (s_X5_audit_l13 F n) u v2 (y2 - y3) v1 0 _ hk13 hR) ⟨rfl, rfl, rfl, trivial⟩ rfl rfl

def s_X5_audit (F : Nat) (u : S_X5) : Option (Int32 × S_X5) := (s_X5_save F (m_X5_thrown 0 u)).bind fun y1 => (s_X5_audit_l13 F F y1 0 0)
set_option maxHeartbeats 4000000 in
set_option maxRecDepth 20000 in
theorem t_X5_audit (F : Nat) (u : S_X5) (x : (Int32 × S_X5)) (hR : s_X5_audit F u = some x) : ev_A yX5_audit mm_X5_audit none [.ref 0] (W_X5 u) (fun r w => r = some (.int x.1) ∧ w = W_X5 x.2) := by
  unfold s_X5_audit at hR
  refine ev_start ok_X5_audit (by decide +kernel) rfl rfl (Nat.le_of_ble_eq_true rfl) ?_
  refine ev_run (cs := []) (pc' := 6) (L' := [some (.ref 0), none, none, none]) (st' := [.ref 0]) (w' := W_X5 (m_X5_thrown 0 u)) [] 4 (by with_unfolding_all rfl) trivial ?_
  obtain ⟨y1, h1, hR⟩ := lf_b hR
  refine ev_callV1 0 (t_X5_save F (m_X5_thrown 0 u) _ h1) cv_X5_save ml_X5_108 rfl rfl rfl (Nat.le_of_ble_eq_true rfl) (by with_unfolding_all rfl) (Nat.le_of_ble_eq_true rfl) ⟨Nat.le_of_ble_eq_true rfl, Nat.le_of_ble_eq_true rfl⟩ ⟨Nat.le_refl _, Nat.le_refl _⟩ ?_ ?_
  · rintro r w ⟨rfl, rfl⟩; rfl
  rintro r w ⟨rfl, rfl⟩
  refine ev_nx (pc' := 9) (st' := []) (w' := W_X5 y1) rfl rfl (by with_unfolding_all rfl) rfl rfl ?_
  refine ev_run (cs := []) (pc' := 13) (L' := [some (.ref 0), some (.int 0), some (.int 0), none]) (st' := []) (w' := W_X5 y1) [] 4 (by with_unfolding_all rfl) trivial ?_
  exact ev_to2 (t_X5_audit_l13 F _ F y1 0 0 hR) ⟨rfl, rfl, rfl, trivial⟩ rfl rfl

def s_X5_append_b30 (F : Nat) (u : S_X5) (v1 : Int32) (p1 : Int32) : Option (Int32 × S_X5) := if p1 ≤ 0 then (if lf_ix (a_X5_textLength u) 60 then (some ((a_X5_textLength u) + 1, m_X5_textLength ((a_X5_textLength u) + 1) (m_X5_text (upd (a_X5_text u) ((a_X5_textLength u).toNatClampNeg) v1) (m_X5_thrown p1 u)))) else none) else (some (0, m_X5_thrown p1 u))
set_option maxHeartbeats 4000000 in
set_option maxRecDepth 20000 in
theorem t_X5_append_b30 (F : Nat) (u : S_X5) (v1 : Int32) (p1 : Int32) (x : (Int32 × S_X5))  (hR : s_X5_append_b30 F u v1 p1 = some x) : ev_V mm_X5_append none (ev_XR mm_X5_append (fun r w => r = some (.int x.1) ∧ w = W_X5 x.2)) 30 [some (.ref 0), some (.int v1)] [.int p1, .ref 0] (W_X5 u) 0 0 := by
  unfold s_X5_append_b30 at hR
  refine ev_run (cs := []) (pc' := 37) (L' := [some (.ref 0), some (.int v1)]) (st' := [.int p1]) (w' := W_X5 (m_X5_thrown p1 u)) [] 3 (by with_unfolding_all rfl) trivial ?_
  refine ev_br rfl rfl (fun h1 => ?_) (fun h1 => ?_)
  · replace hR := lf_t h1 hR
    obtain ⟨h2, hR⟩ := lf_g hR
    refine ev_run (cs := [lf_ix (a_X5_textLength u) 60]) (pc' := 62) (L' := [some (.ref 0), some (.int v1)]) (st' := []) (w' := W_X5 (m_X5_textLength ((a_X5_textLength u) + 1) (m_X5_text (upd (a_X5_text u) ((a_X5_textLength u).toNatClampNeg) v1) (m_X5_thrown p1 u)))) [] 12 (by with_unfolding_all rfl) (h2) ?_
    refine ev_run (cs := []) (pc' := 66) (L' := [some (.ref 0), some (.int v1)]) (st' := [.int ((a_X5_textLength u) + 1)]) (w' := W_X5 (m_X5_textLength ((a_X5_textLength u) + 1) (m_X5_text (upd (a_X5_text u) ((a_X5_textLength u).toNatClampNeg) v1) (m_X5_thrown p1 u)))) [] 2 (by with_unfolding_all rfl) trivial ?_
    cases hR
    exact ev_exit ⟨_, _, rfl, ⟨rfl, Or.inl rfl⟩, ⟨rfl, rfl⟩, Nat.le_refl _, Nat.le_refl _⟩
  · replace hR := lf_f h1 hR
    refine ev_run (cs := []) (pc' := 41) (L' := [some (.ref 0), some (.int v1)]) (st' := [.int 0]) (w' := W_X5 (m_X5_thrown p1 u)) [] 1 (by with_unfolding_all rfl) trivial ?_
    cases hR
    exact ev_exit ⟨_, _, rfl, ⟨rfl, Or.inl rfl⟩, ⟨rfl, rfl⟩, Nat.le_refl _, Nat.le_refl _⟩

def s_X5_append (F : Nat) (u : S_X5) (v1 : Int32) : Option (Int32 × S_X5) := (s_X5_within F v1 33 126).bind fun y1 => (if y1 then (if (a_X5_textLength u) = 60 then (s_X5_append_b30 F u v1 2) else (s_X5_append_b30 F u v1 0)) else (s_X5_append_b30 F u v1 1))
set_option maxHeartbeats 4000000 in
set_option maxRecDepth 20000 in
theorem t_X5_append (F : Nat) (u : S_X5) (v1 : Int32) (x : (Int32 × S_X5)) (hR : s_X5_append F u v1 = some x) : ev_A yX5_append mm_X5_append none [.ref 0, .int v1] (W_X5 u) (fun r w => r = some (.int x.1) ∧ w = W_X5 x.2) := by
  unfold s_X5_append at hR
  refine ev_start ok_X5_append (by decide +kernel) rfl rfl (Nat.le_of_ble_eq_true rfl) ?_
  refine ev_run (cs := []) (pc' := 6) (L' := [some (.ref 0), some (.int v1)]) (st' := [.int 126, .int 33, .int v1, .ref 0]) (w' := W_X5 u) [] 4 (by with_unfolding_all rfl) trivial ?_
  obtain ⟨y1, h1, hR⟩ := lf_b hR
  refine ev_callS1 0 (t_X5_within F v1 33 126 _ h1) cs_X5_within ml_X5_46 rfl rfl rfl (Nat.le_of_ble_eq_true rfl) (by with_unfolding_all rfl) (Nat.le_of_ble_eq_true rfl) ⟨Nat.le_of_ble_eq_true rfl, Nat.le_of_ble_eq_true rfl⟩ ⟨Nat.le_refl _, Nat.le_refl _⟩ ?_ ?_
  · rintro r w ⟨rfl, rfl⟩; rfl
  rintro r w ⟨rfl, rfl⟩
  refine ev_nx (pc' := 9) (st' := [.int (ev_b y1), .ref 0]) (w' := W_X5 u) rfl rfl (by with_unfolding_all rfl) rfl rfl ?_
  refine ev_br rfl rfl (fun h2 => ?_) (fun h2 => ?_)
  · replace hR := lf_z1 h2 hR
    refine ev_run (cs := []) (pc' := 22) (L' := [some (.ref 0), some (.int v1)]) (st' := [.int 60, .int (a_X5_textLength u), .ref 0]) (w' := W_X5 u) [] 3 (by with_unfolding_all rfl) trivial ?_
    refine ev_br rfl rfl (fun h3 => ?_) (fun h3 => ?_)
    · replace hR := lf_f h3 hR
      refine ev_run (cs := []) (pc' := 30) (L' := [some (.ref 0), some (.int v1)]) (st' := [.int 0, .ref 0]) (w' := W_X5 u) [] 1 (by with_unfolding_all rfl) trivial ?_
      exact ev_to2 (t_X5_append_b30 F u v1 0 _ hR) ⟨rfl, rfl, trivial⟩ rfl rfl
    · replace hR := lf_t h3 hR
      refine ev_run (cs := []) (pc' := 30) (L' := [some (.ref 0), some (.int v1)]) (st' := [.int 2, .ref 0]) (w' := W_X5 u) [] 2 (by with_unfolding_all rfl) trivial ?_
      exact ev_to2 (t_X5_append_b30 F u v1 2 _ hR) ⟨rfl, rfl, trivial⟩ rfl rfl
  · replace hR := lf_z0 h2 hR
    refine ev_run (cs := []) (pc' := 30) (L' := [some (.ref 0), some (.int v1)]) (st' := [.int 1, .ref 0]) (w' := W_X5 u) [] 2 (by with_unfolding_all rfl) trivial ?_
    exact ev_to2 (t_X5_append_b30 F u v1 1 _ hR) ⟨rfl, rfl, trivial⟩ rfl rfl

def s_X5_clearBuffer (F : Nat) (u : S_X5) : Option (Int32 × S_X5) := some (a_X5_textLength u, m_X5_textLength 0 (m_X5_thrown 0 u))
set_option maxHeartbeats 4000000 in
set_option maxRecDepth 20000 in
theorem t_X5_clearBuffer (F : Nat) (u : S_X5) (x : (Int32 × S_X5)) (hR : s_X5_clearBuffer F u = some x) : ev_A yX5_clearBuffer mm_X5_clearBuffer none [.ref 0] (W_X5 u) (fun r w => r = some (.int x.1) ∧ w = W_X5 x.2) := by
  unfold s_X5_clearBuffer at hR
  refine ev_start ok_X5_clearBuffer (by decide +kernel) rfl rfl (Nat.le_of_ble_eq_true rfl) ?_
  refine ev_run (cs := []) (pc' := 16) (L' := [some (.ref 0), some (.int (a_X5_textLength u))]) (st' := [.int (a_X5_textLength u)]) (w' := W_X5 (m_X5_textLength 0 (m_X5_thrown 0 u))) [] 10 (by with_unfolding_all rfl) trivial ?_
  cases hR
  exact ev_exit ⟨_, _, rfl, ⟨rfl, Or.inl rfl⟩, ⟨rfl, rfl⟩, Nat.le_refl _, Nat.le_refl _⟩

def s_X5_stepAt (F : Nat) (v0 : Int32) : Option Int32 := if v0 = 104 then (some (2)) else (if v0 = 105 then (some ((-1))) else (if v0 = 106 then (some (9)) else (if v0 = 107 then (some ((-1))) else (if v0 = 108 then (some ((-1))) else (if v0 = 109 then (some ((-1))) else (if v0 = 110 then (some (1)) else (if v0 = 111 then (some ((-1))) else (if v0 = 112 then (some ((-1))) else (if v0 = 113 then (some ((-1))) else (if v0 = 114 then (some ((-1))) else (if v0 = 115 then (some (5)) else (if v0 = 116 then (some (8)) else (some ((-1)))))))))))))))
set_option maxHeartbeats 4000000 in
set_option maxRecDepth 20000 in
theorem t_X5_stepAt (F : Nat) (v0 : Int32) (x : Int32) (hR : s_X5_stepAt F v0 = some x) : ev_A yX5_stepAt mm_X5_stepAt none [.int v0] (([] : List ev_E)) (fun r w => r = some (.int x) ∧ w = ([] : List ev_E)) := by
  unfold s_X5_stepAt at hR
  refine ev_start ok_X5_stepAt (by decide +kernel) rfl rfl (Nat.le_of_ble_eq_true rfl) ?_
  refine ev_run (cs := []) (pc' := 1) (L' := [some (.int v0)]) (st' := [.int v0]) (w' := ([] : List ev_E)) [] 1 (by with_unfolding_all rfl) trivial ?_
  by_cases h1 : v0 = 104
  · replace hR := lf_t h1 hR
    refine ev_lit h1 (ev_run [] 1 rfl trivial ?_)
    refine ev_run (cs := []) (pc' := 71) (L' := [some (.int v0)]) (st' := [.int 2]) (w' := ([] : List ev_E)) [] 1 (by with_unfolding_all rfl) trivial ?_
    cases hR
    exact ev_exit ⟨_, _, rfl, ⟨rfl, Or.inl rfl⟩, ⟨rfl, rfl⟩, Nat.le_refl _, Nat.le_refl _⟩
  replace hR := lf_f h1 hR
  by_cases h2 : v0 = 105
  · replace hR := lf_t h2 hR
    refine ev_lit h2 (ev_run [] 1 rfl trivial ?_)
    refine ev_run (cs := []) (pc' := 81) (L' := [some (.int v0)]) (st' := [.int (-1)]) (w' := ([] : List ev_E)) [] 1 (by with_unfolding_all rfl) trivial ?_
    cases hR
    exact ev_exit ⟨_, _, rfl, ⟨rfl, Or.inl rfl⟩, ⟨rfl, rfl⟩, Nat.le_refl _, Nat.le_refl _⟩
  replace hR := lf_f h2 hR
  by_cases h3 : v0 = 106
  · replace hR := lf_t h3 hR
    refine ev_lit h3 (ev_run [] 1 rfl trivial ?_)
    refine ev_run (cs := []) (pc' := 79) (L' := [some (.int v0)]) (st' := [.int 9]) (w' := ([] : List ev_E)) [] 1 (by with_unfolding_all rfl) trivial ?_
    cases hR
    exact ev_exit ⟨_, _, rfl, ⟨rfl, Or.inl rfl⟩, ⟨rfl, rfl⟩, Nat.le_refl _, Nat.le_refl _⟩
  replace hR := lf_f h3 hR
  by_cases h4 : v0 = 107
  · replace hR := lf_t h4 hR
    refine ev_lit h4 (ev_run [] 1 rfl trivial ?_)
    refine ev_run (cs := []) (pc' := 81) (L' := [some (.int v0)]) (st' := [.int (-1)]) (w' := ([] : List ev_E)) [] 1 (by with_unfolding_all rfl) trivial ?_
    cases hR
    exact ev_exit ⟨_, _, rfl, ⟨rfl, Or.inl rfl⟩, ⟨rfl, rfl⟩, Nat.le_refl _, Nat.le_refl _⟩
  replace hR := lf_f h4 hR
  by_cases h5 : v0 = 108
  · replace hR := lf_t h5 hR
    refine ev_lit h5 (ev_run [] 1 rfl trivial ?_)
    refine ev_run (cs := []) (pc' := 81) (L' := [some (.int v0)]) (st' := [.int (-1)]) (w' := ([] : List ev_E)) [] 1 (by with_unfolding_all rfl) trivial ?_
    cases hR
    exact ev_exit ⟨_, _, rfl, ⟨rfl, Or.inl rfl⟩, ⟨rfl, rfl⟩, Nat.le_refl _, Nat.le_refl _⟩
  replace hR := lf_f h5 hR
  by_cases h6 : v0 = 109
  · replace hR := lf_t h6 hR
    refine ev_lit h6 (ev_run [] 1 rfl trivial ?_)
    refine ev_run (cs := []) (pc' := 81) (L' := [some (.int v0)]) (st' := [.int (-1)]) (w' := ([] : List ev_E)) [] 1 (by with_unfolding_all rfl) trivial ?_
    cases hR
    exact ev_exit ⟨_, _, rfl, ⟨rfl, Or.inl rfl⟩, ⟨rfl, rfl⟩, Nat.le_refl _, Nat.le_refl _⟩
  replace hR := lf_f h6 hR
  by_cases h7 : v0 = 110
  · replace hR := lf_t h7 hR
    refine ev_lit h7 (ev_run [] 1 rfl trivial ?_)
    refine ev_run (cs := []) (pc' := 69) (L' := [some (.int v0)]) (st' := [.int 1]) (w' := ([] : List ev_E)) [] 1 (by with_unfolding_all rfl) trivial ?_
    cases hR
    exact ev_exit ⟨_, _, rfl, ⟨rfl, Or.inl rfl⟩, ⟨rfl, rfl⟩, Nat.le_refl _, Nat.le_refl _⟩
  replace hR := lf_f h7 hR
  by_cases h8 : v0 = 111
  · replace hR := lf_t h8 hR
    refine ev_lit h8 (ev_run [] 1 rfl trivial ?_)
    refine ev_run (cs := []) (pc' := 81) (L' := [some (.int v0)]) (st' := [.int (-1)]) (w' := ([] : List ev_E)) [] 1 (by with_unfolding_all rfl) trivial ?_
    cases hR
    exact ev_exit ⟨_, _, rfl, ⟨rfl, Or.inl rfl⟩, ⟨rfl, rfl⟩, Nat.le_refl _, Nat.le_refl _⟩
  replace hR := lf_f h8 hR
  by_cases h9 : v0 = 112
  · replace hR := lf_t h9 hR
    refine ev_lit h9 (ev_run [] 1 rfl trivial ?_)
    refine ev_run (cs := []) (pc' := 81) (L' := [some (.int v0)]) (st' := [.int (-1)]) (w' := ([] : List ev_E)) [] 1 (by with_unfolding_all rfl) trivial ?_
    cases hR
    exact ev_exit ⟨_, _, rfl, ⟨rfl, Or.inl rfl⟩, ⟨rfl, rfl⟩, Nat.le_refl _, Nat.le_refl _⟩
  replace hR := lf_f h9 hR
  by_cases h10 : v0 = 113
  · replace hR := lf_t h10 hR
    refine ev_lit h10 (ev_run [] 1 rfl trivial ?_)
    refine ev_run (cs := []) (pc' := 81) (L' := [some (.int v0)]) (st' := [.int (-1)]) (w' := ([] : List ev_E)) [] 1 (by with_unfolding_all rfl) trivial ?_
    cases hR
    exact ev_exit ⟨_, _, rfl, ⟨rfl, Or.inl rfl⟩, ⟨rfl, rfl⟩, Nat.le_refl _, Nat.le_refl _⟩
  replace hR := lf_f h10 hR
  by_cases h11 : v0 = 114
  · replace hR := lf_t h11 hR
    refine ev_lit h11 (ev_run [] 1 rfl trivial ?_)
    refine ev_run (cs := []) (pc' := 81) (L' := [some (.int v0)]) (st' := [.int (-1)]) (w' := ([] : List ev_E)) [] 1 (by with_unfolding_all rfl) trivial ?_
    cases hR
    exact ev_exit ⟨_, _, rfl, ⟨rfl, Or.inl rfl⟩, ⟨rfl, rfl⟩, Nat.le_refl _, Nat.le_refl _⟩
  replace hR := lf_f h11 hR
  by_cases h12 : v0 = 115
  · replace hR := lf_t h12 hR
    refine ev_lit h12 (ev_run [] 1 rfl trivial ?_)
    refine ev_run (cs := []) (pc' := 73) (L' := [some (.int v0)]) (st' := [.int 5]) (w' := ([] : List ev_E)) [] 1 (by with_unfolding_all rfl) trivial ?_
    cases hR
    exact ev_exit ⟨_, _, rfl, ⟨rfl, Or.inl rfl⟩, ⟨rfl, rfl⟩, Nat.le_refl _, Nat.le_refl _⟩
  replace hR := lf_f h12 hR
  by_cases h13 : v0 = 116
  · replace hR := lf_t h13 hR
    refine ev_lit h13 (ev_run [] 1 rfl trivial ?_)
    refine ev_run (cs := []) (pc' := 76) (L' := [some (.int v0)]) (st' := [.int 8]) (w' := ([] : List ev_E)) [] 1 (by with_unfolding_all rfl) trivial ?_
    cases hR
    exact ev_exit ⟨_, _, rfl, ⟨rfl, Or.inl rfl⟩, ⟨rfl, rfl⟩, Nat.le_refl _, Nat.le_refl _⟩
  replace hR := lf_f h13 hR
  refine ev_tso 80 rfl ?_ rfl ?_
  · have k0 := lf_nt h1; have k1 := lf_nt h2; have k2 := lf_nt h3; have k3 := lf_nt h4; have k4 := lf_nt h5; have k5 := lf_nt h6; have k6 := lf_nt h7; have k7 := lf_nt h8; have k8 := lf_nt h9; have k9 := lf_nt h10; have k10 := lf_nt h11; have k11 := lf_nt h12; have k12 := lf_nt h13; rw [show (104 : Int32).toInt = 104 from rfl] at k0; rw [show (105 : Int32).toInt = 105 from rfl] at k1; rw [show (106 : Int32).toInt = 106 from rfl] at k2; rw [show (107 : Int32).toInt = 107 from rfl] at k3; rw [show (108 : Int32).toInt = 108 from rfl] at k4; rw [show (109 : Int32).toInt = 109 from rfl] at k5; rw [show (110 : Int32).toInt = 110 from rfl] at k6; rw [show (111 : Int32).toInt = 111 from rfl] at k7; rw [show (112 : Int32).toInt = 112 from rfl] at k8; rw [show (113 : Int32).toInt = 113 from rfl] at k9; rw [show (114 : Int32).toInt = 114 from rfl] at k10; rw [show (115 : Int32).toInt = 115 from rfl] at k11; rw [show (116 : Int32).toInt = 116 from rfl] at k12; omega
  refine ev_run (cs := []) (pc' := 81) (L' := [some (.int v0)]) (st' := [.int (-1)]) (w' := ([] : List ev_E)) [] 1 (by with_unfolding_all rfl) trivial ?_
  cases hR
  exact ev_exit ⟨_, _, rfl, ⟨rfl, Or.inl rfl⟩, ⟨rfl, rfl⟩, Nat.le_refl _, Nat.le_refl _⟩

def s_X5_afterDigit (F : Nat) (v0 : Int32) (v1 : Int32) (v2 : Int32) (v3 : Int32) : Option Int32 := (s_X5_within F v0 0 9).bind fun y1 => (if y1 then (if v0 = 1 then (some (v1)) else (if v0 = 2 then (some (v2)) else (some (v3)))) else (some ((-1))))
set_option maxHeartbeats 4000000 in
set_option maxRecDepth 20000 in
theorem t_X5_afterDigit (F : Nat) (v0 : Int32) (v1 : Int32) (v2 : Int32) (v3 : Int32) (x : Int32) (hR : s_X5_afterDigit F v0 v1 v2 v3 = some x) : ev_A yX5_afterDigit mm_X5_afterDigit none [.int v0, .int v1, .int v2, .int v3] (([] : List ev_E)) (fun r w => r = some (.int x) ∧ w = ([] : List ev_E)) := by
  unfold s_X5_afterDigit at hR
  refine ev_start ok_X5_afterDigit (by decide +kernel) rfl rfl (Nat.le_of_ble_eq_true rfl) ?_
  refine ev_run (cs := []) (pc' := 4) (L' := [some (.int v0), some (.int v1), some (.int v2), some (.int v3)]) (st' := [.int 9, .int 0, .int v0]) (w' := ([] : List ev_E)) [] 3 (by with_unfolding_all rfl) trivial ?_
  obtain ⟨y1, h1, hR⟩ := lf_b hR
  refine ev_callS1 0 (t_X5_within F v0 0 9 _ h1) cs_X5_within ml_X5_46 rfl rfl rfl (Nat.le_of_ble_eq_true rfl) (by with_unfolding_all rfl) (Nat.le_of_ble_eq_true rfl) ⟨Nat.le_of_ble_eq_true rfl, Nat.le_of_ble_eq_true rfl⟩ ⟨Nat.le_refl _, Nat.le_refl _⟩ ?_ ?_
  · rintro r w ⟨rfl, rfl⟩; rfl
  rintro r w ⟨rfl, rfl⟩
  refine ev_nx (pc' := 7) (st' := [.int (ev_b y1)]) (w' := ([] : List ev_E)) rfl rfl (by with_unfolding_all rfl) rfl rfl ?_
  refine ev_br rfl rfl (fun h2 => ?_) (fun h2 => ?_)
  · replace hR := lf_z1 h2 hR
    refine ev_run (cs := []) (pc' := 16) (L' := [some (.int v0), some (.int v1), some (.int v2), some (.int v3)]) (st' := [.int 1, .int v0]) (w' := ([] : List ev_E)) [] 2 (by with_unfolding_all rfl) trivial ?_
    refine ev_br rfl rfl (fun h3 => ?_) (fun h3 => ?_)
    · replace hR := lf_f h3 hR
      refine ev_run (cs := []) (pc' := 25) (L' := [some (.int v0), some (.int v1), some (.int v2), some (.int v3)]) (st' := [.int 2, .int v0]) (w' := ([] : List ev_E)) [] 2 (by with_unfolding_all rfl) trivial ?_
      refine ev_br rfl rfl (fun h4 => ?_) (fun h4 => ?_)
      · replace hR := lf_f h4 hR
        refine ev_run (cs := []) (pc' := 33) (L' := [some (.int v0), some (.int v1), some (.int v2), some (.int v3)]) (st' := [.int v3]) (w' := ([] : List ev_E)) [] 1 (by with_unfolding_all rfl) trivial ?_
        cases hR
        exact ev_exit ⟨_, _, rfl, ⟨rfl, Or.inl rfl⟩, ⟨rfl, rfl⟩, Nat.le_refl _, Nat.le_refl _⟩
      · replace hR := lf_t h4 hR
        refine ev_run (cs := []) (pc' := 33) (L' := [some (.int v0), some (.int v1), some (.int v2), some (.int v3)]) (st' := [.int v2]) (w' := ([] : List ev_E)) [] 2 (by with_unfolding_all rfl) trivial ?_
        cases hR
        exact ev_exit ⟨_, _, rfl, ⟨rfl, Or.inl rfl⟩, ⟨rfl, rfl⟩, Nat.le_refl _, Nat.le_refl _⟩
    · replace hR := lf_t h3 hR
      refine ev_run (cs := []) (pc' := 33) (L' := [some (.int v0), some (.int v1), some (.int v2), some (.int v3)]) (st' := [.int v1]) (w' := ([] : List ev_E)) [] 2 (by with_unfolding_all rfl) trivial ?_
      cases hR
      exact ev_exit ⟨_, _, rfl, ⟨rfl, Or.inl rfl⟩, ⟨rfl, rfl⟩, Nat.le_refl _, Nat.le_refl _⟩
  · replace hR := lf_z0 h2 hR
    refine ev_run (cs := []) (pc' := 33) (L' := [some (.int v0), some (.int v1), some (.int v2), some (.int v3)]) (st' := [.int (-1)]) (w' := ([] : List ev_E)) [] 2 (by with_unfolding_all rfl) trivial ?_
    cases hR
    exact ev_exit ⟨_, _, rfl, ⟨rfl, Or.inl rfl⟩, ⟨rfl, rfl⟩, Nat.le_refl _, Nat.le_refl _⟩

def s_X5_next_b209 (F : Nat) (v1 : Int32) (v3 : Int32) : Option Int32 := if v3 = 0 then (if v1 = 59 then (some (0)) else (some ((-1)))) else (some (9))
set_option maxHeartbeats 4000000 in
set_option maxRecDepth 20000 in
theorem t_X5_next_b209 (F : Nat) (v1 : Int32) (v3 : Int32) (x : Int32)  (hR : s_X5_next_b209 F v1 v3 = some x) : ev_V mm_X5_next none (ev_XR mm_X5_next (fun r w => r = some (.int x) ∧ w = ([] : List ev_E))) 209 [none, some (.int v1), none, some (.int v3)] [] (([] : List ev_E)) 0 0 := by
  unfold s_X5_next_b209 at hR
  refine ev_run (cs := []) (pc' := 210) (L' := [none, some (.int v1), none, some (.int v3)]) (st' := [.int v3]) (w' := ([] : List ev_E)) [] 1 (by with_unfolding_all rfl) trivial ?_
  refine ev_br rfl rfl (fun h1 => ?_) (fun h1 => ?_)
  · replace hR := lf_t h1 hR
    refine ev_run (cs := []) (pc' := 221) (L' := [none, some (.int v1), none, some (.int v3)]) (st' := [.int 59, .int v1]) (w' := ([] : List ev_E)) [] 2 (by with_unfolding_all rfl) trivial ?_
    refine ev_br rfl rfl (fun h2 => ?_) (fun h2 => ?_)
    · replace hR := lf_f h2 hR
      refine ev_run (cs := []) (pc' := 229) (L' := [none, some (.int v1), none, some (.int v3)]) (st' := [.int (-1)]) (w' := ([] : List ev_E)) [] 1 (by with_unfolding_all rfl) trivial ?_
      cases hR
      exact ev_exit ⟨_, _, rfl, ⟨rfl, Or.inl rfl⟩, ⟨rfl, rfl⟩, Nat.le_refl _, Nat.le_refl _⟩
    · replace hR := lf_t h2 hR
      refine ev_run (cs := []) (pc' := 229) (L' := [none, some (.int v1), none, some (.int v3)]) (st' := [.int 0]) (w' := ([] : List ev_E)) [] 2 (by with_unfolding_all rfl) trivial ?_
      cases hR
      exact ev_exit ⟨_, _, rfl, ⟨rfl, Or.inl rfl⟩, ⟨rfl, rfl⟩, Nat.le_refl _, Nat.le_refl _⟩
  · replace hR := lf_f h1 hR
    refine ev_run (cs := []) (pc' := 229) (L' := [none, some (.int v1), none, some (.int v3)]) (st' := [.int 9]) (w' := ([] : List ev_E)) [] 2 (by with_unfolding_all rfl) trivial ?_
    cases hR
    exact ev_exit ⟨_, _, rfl, ⟨rfl, Or.inl rfl⟩, ⟨rfl, rfl⟩, Nat.le_refl _, Nat.le_refl _⟩

def s_X5_next_b305 (F : Nat) (v1 : Int32) : Option Int32 := if v1 = 59 then (some (0)) else (some ((-1)))
set_option maxHeartbeats 4000000 in
set_option maxRecDepth 20000 in
theorem t_X5_next_b305 (F : Nat) (v1 : Int32) (x : Int32)  (hR : s_X5_next_b305 F v1 = some x) : ev_V mm_X5_next none (ev_XR mm_X5_next (fun r w => r = some (.int x) ∧ w = ([] : List ev_E))) 305 [none, some (.int v1), none, none] [] (([] : List ev_E)) 0 0 := by
  unfold s_X5_next_b305 at hR
  refine ev_run (cs := []) (pc' := 308) (L' := [none, some (.int v1), none, none]) (st' := [.int 59, .int v1]) (w' := ([] : List ev_E)) [] 2 (by with_unfolding_all rfl) trivial ?_
  refine ev_br rfl rfl (fun h1 => ?_) (fun h1 => ?_)
  · replace hR := lf_f h1 hR
    refine ev_run (cs := []) (pc' := 316) (L' := [none, some (.int v1), none, none]) (st' := [.int (-1)]) (w' := ([] : List ev_E)) [] 1 (by with_unfolding_all rfl) trivial ?_
    cases hR
    exact ev_exit ⟨_, _, rfl, ⟨rfl, Or.inl rfl⟩, ⟨rfl, rfl⟩, Nat.le_refl _, Nat.le_refl _⟩
  · replace hR := lf_t h1 hR
    refine ev_run (cs := []) (pc' := 316) (L' := [none, some (.int v1), none, none]) (st' := [.int 0]) (w' := ([] : List ev_E)) [] 2 (by with_unfolding_all rfl) trivial ?_
    cases hR
    exact ev_exit ⟨_, _, rfl, ⟨rfl, Or.inl rfl⟩, ⟨rfl, rfl⟩, Nat.le_refl _, Nat.le_refl _⟩

def s_X5_next (F : Nat) (v0 : Int32) (v1 : Int32) : Option Int32 := (s_X5_within F (v1 - 48) 0 9).bind fun y1 => (if v0 = 0 then ((s_X5_stepAt F v1).bind fun y2 => (some (y2))) else (if v0 = 1 then (if y1 then (some (9)) else (some ((-1)))) else (if v0 = 2 then ((s_X5_within F (v1 - 48) 0 3).bind fun y3 => (if y3 then (some (3)) else (some ((-1))))) else (if v0 = 3 then (if v1 = 61 then (some (4)) else (some ((-1)))) else (if v0 = 4 then (if v1 = 45 then (some (9)) else ((s_X5_afterDigit F (v1 - 48) 10 11 9).bind fun y4 => (some (y4)))) else (if v0 = 5 then ((s_X5_afterDigit F (v1 - 48) 12 13 6).bind fun y5 => (some (y5))) else (if v0 = 6 then (if v1 = 46 then (some (7)) else (some ((-1)))) else (if v0 = 7 then ((s_X5_within F (v1 - 48) 0 3).bind fun y6 => (if y6 then (some (3)) else (some ((-1))))) else (if v0 = 8 then ((s_X5_within F (v1 - 48) 1 9).bind fun y7 => (if y7 then (some (14)) else (some ((-1))))) else (if v0 = 9 then (s_X5_next_b305 F v1) else (if v0 = 10 then (s_X5_next_b209 F v1 (ev_b y1)) else (if v0 = 11 then ((s_X5_within F (v1 - 48) 0 3).bind fun y8 => (if y8 then (some (9)) else (if v1 = 59 then (some (0)) else (some ((-1)))))) else (if v0 = 12 then (if y1 then (some (6)) else (if v1 = 46 then (some (7)) else (some ((-1))))) else (if v0 = 13 then ((s_X5_within F (v1 - 48) 0 3).bind fun y9 => (if y9 then (some (6)) else (if v1 = 46 then (some (7)) else (some ((-1)))))) else (if v0 = 14 then (s_X5_next_b209 F v1 (ev_b y1)) else (s_X5_next_b305 F v1))))))))))))))))
set_option maxHeartbeats 4000000 in
set_option maxRecDepth 20000 in
theorem t_X5_next (F : Nat) (v0 : Int32) (v1 : Int32) (x : Int32) (hR : s_X5_next F v0 v1 = some x) : ev_A yX5_next mm_X5_next none [.int v0, .int v1] (([] : List ev_E)) (fun r w => r = some (.int x) ∧ w = ([] : List ev_E)) := by
  unfold s_X5_next at hR
  refine ev_start ok_X5_next (by decide +kernel) rfl rfl (Nat.le_of_ble_eq_true rfl) ?_
  refine ev_run (cs := []) (pc' := 9) (L' := [some (.int v0), some (.int v1), some (.int (v1 - 48)), none]) (st' := [.int 9, .int 0, .int (v1 - 48)]) (w' := ([] : List ev_E)) [] 7 (by with_unfolding_all rfl) trivial ?_
  obtain ⟨y1, h1, hR⟩ := lf_b hR
  refine ev_callS1 0 (t_X5_within F (v1 - 48) 0 9 _ h1) cs_X5_within ml_X5_46 rfl rfl rfl (Nat.le_of_ble_eq_true rfl) (by with_unfolding_all rfl) (Nat.le_of_ble_eq_true rfl) ⟨Nat.le_of_ble_eq_true rfl, Nat.le_of_ble_eq_true rfl⟩ ⟨Nat.le_refl _, Nat.le_refl _⟩ ?_ ?_
  · rintro r w ⟨rfl, rfl⟩; rfl
  rintro r w ⟨rfl, rfl⟩
  refine ev_nx (pc' := 12) (st' := [.int (ev_b y1)]) (w' := ([] : List ev_E)) rfl rfl (by with_unfolding_all rfl) rfl rfl ?_
  refine ev_run (cs := []) (pc' := 14) (L' := [some (.int v0), some (.int v1), some (.int (v1 - 48)), some (.int (ev_b y1))]) (st' := [.int v0]) (w' := ([] : List ev_E)) [] 2 (by with_unfolding_all rfl) trivial ?_
  by_cases h2 : v0 = 0
  · replace hR := lf_t h2 hR
    refine ev_lit h2 (ev_run [] 1 rfl trivial ?_)
    refine ev_run (cs := []) (pc' := 89) (L' := [some (.int v0), some (.int v1), some (.int (v1 - 48)), some (.int (ev_b y1))]) (st' := [.int v1]) (w' := ([] : List ev_E)) [] 1 (by with_unfolding_all rfl) trivial ?_
    obtain ⟨y2, h3, hR⟩ := lf_b hR
    refine ev_callS1 0 (t_X5_stepAt F v1 _ h3) cs_X5_stepAt ml_X5_177 rfl rfl rfl (Nat.le_of_ble_eq_true rfl) (by with_unfolding_all rfl) (Nat.le_of_ble_eq_true rfl) ⟨Nat.le_of_ble_eq_true rfl, Nat.le_of_ble_eq_true rfl⟩ ⟨Nat.le_refl _, Nat.le_refl _⟩ ?_ ?_
    · rintro r w ⟨rfl, rfl⟩; rfl
    rintro r w ⟨rfl, rfl⟩
    refine ev_nx (pc' := 92) (st' := [.int y2]) (w' := ([] : List ev_E)) rfl rfl (by with_unfolding_all rfl) rfl rfl ?_
    cases hR
    exact ev_exit ⟨_, _, rfl, ⟨rfl, Or.inl rfl⟩, ⟨rfl, rfl⟩, Nat.le_refl _, Nat.le_refl _⟩
  replace hR := lf_f h2 hR
  by_cases h4 : v0 = 1
  · replace hR := lf_t h4 hR
    refine ev_lit h4 (ev_run [] 1 rfl trivial ?_)
    refine ev_run (cs := []) (pc' := 94) (L' := [some (.int v0), some (.int v1), some (.int (v1 - 48)), some (.int (ev_b y1))]) (st' := [.int (ev_b y1)]) (w' := ([] : List ev_E)) [] 1 (by with_unfolding_all rfl) trivial ?_
    refine ev_br rfl rfl (fun h5 => ?_) (fun h5 => ?_)
    · replace hR := lf_z0 h5 hR
      refine ev_run (cs := []) (pc' := 103) (L' := [some (.int v0), some (.int v1), some (.int (v1 - 48)), some (.int (ev_b y1))]) (st' := [.int (-1)]) (w' := ([] : List ev_E)) [] 1 (by with_unfolding_all rfl) trivial ?_
      cases hR
      exact ev_exit ⟨_, _, rfl, ⟨rfl, Or.inl rfl⟩, ⟨rfl, rfl⟩, Nat.le_refl _, Nat.le_refl _⟩
    · replace hR := lf_z1 h5 hR
      refine ev_run (cs := []) (pc' := 103) (L' := [some (.int v0), some (.int v1), some (.int (v1 - 48)), some (.int (ev_b y1))]) (st' := [.int 9]) (w' := ([] : List ev_E)) [] 2 (by with_unfolding_all rfl) trivial ?_
      cases hR
      exact ev_exit ⟨_, _, rfl, ⟨rfl, Or.inl rfl⟩, ⟨rfl, rfl⟩, Nat.le_refl _, Nat.le_refl _⟩
  replace hR := lf_f h4 hR
  by_cases h6 : v0 = 2
  · replace hR := lf_t h6 hR
    refine ev_lit h6 (ev_run [] 1 rfl trivial ?_)
    refine ev_run (cs := []) (pc' := 107) (L' := [some (.int v0), some (.int v1), some (.int (v1 - 48)), some (.int (ev_b y1))]) (st' := [.int 3, .int 0, .int (v1 - 48)]) (w' := ([] : List ev_E)) [] 3 (by with_unfolding_all rfl) trivial ?_
    obtain ⟨y3, h7, hR⟩ := lf_b hR
    refine ev_callS1 0 (t_X5_within F (v1 - 48) 0 3 _ h7) cs_X5_within ml_X5_46 rfl rfl rfl (Nat.le_of_ble_eq_true rfl) (by with_unfolding_all rfl) (Nat.le_of_ble_eq_true rfl) ⟨Nat.le_of_ble_eq_true rfl, Nat.le_of_ble_eq_true rfl⟩ ⟨Nat.le_refl _, Nat.le_refl _⟩ ?_ ?_
    · rintro r w ⟨rfl, rfl⟩; rfl
    rintro r w ⟨rfl, rfl⟩
    refine ev_nx (pc' := 110) (st' := [.int (ev_b y3)]) (w' := ([] : List ev_E)) rfl rfl (by with_unfolding_all rfl) rfl rfl ?_
    refine ev_br rfl rfl (fun h8 => ?_) (fun h8 => ?_)
    · replace hR := lf_z0 h8 hR
      refine ev_run (cs := []) (pc' := 118) (L' := [some (.int v0), some (.int v1), some (.int (v1 - 48)), some (.int (ev_b y1))]) (st' := [.int (-1)]) (w' := ([] : List ev_E)) [] 1 (by with_unfolding_all rfl) trivial ?_
      cases hR
      exact ev_exit ⟨_, _, rfl, ⟨rfl, Or.inl rfl⟩, ⟨rfl, rfl⟩, Nat.le_refl _, Nat.le_refl _⟩
    · replace hR := lf_z1 h8 hR
      refine ev_run (cs := []) (pc' := 118) (L' := [some (.int v0), some (.int v1), some (.int (v1 - 48)), some (.int (ev_b y1))]) (st' := [.int 3]) (w' := ([] : List ev_E)) [] 2 (by with_unfolding_all rfl) trivial ?_
      cases hR
      exact ev_exit ⟨_, _, rfl, ⟨rfl, Or.inl rfl⟩, ⟨rfl, rfl⟩, Nat.le_refl _, Nat.le_refl _⟩
  replace hR := lf_f h6 hR
  by_cases h9 : v0 = 3
  · replace hR := lf_t h9 hR
    refine ev_lit h9 (ev_run [] 1 rfl trivial ?_)
    refine ev_run (cs := []) (pc' := 122) (L' := [some (.int v0), some (.int v1), some (.int (v1 - 48)), some (.int (ev_b y1))]) (st' := [.int 61, .int v1]) (w' := ([] : List ev_E)) [] 2 (by with_unfolding_all rfl) trivial ?_
    refine ev_br rfl rfl (fun h10 => ?_) (fun h10 => ?_)
    · replace hR := lf_f h10 hR
      refine ev_run (cs := []) (pc' := 130) (L' := [some (.int v0), some (.int v1), some (.int (v1 - 48)), some (.int (ev_b y1))]) (st' := [.int (-1)]) (w' := ([] : List ev_E)) [] 1 (by with_unfolding_all rfl) trivial ?_
      cases hR
      exact ev_exit ⟨_, _, rfl, ⟨rfl, Or.inl rfl⟩, ⟨rfl, rfl⟩, Nat.le_refl _, Nat.le_refl _⟩
    · replace hR := lf_t h10 hR
      refine ev_run (cs := []) (pc' := 130) (L' := [some (.int v0), some (.int v1), some (.int (v1 - 48)), some (.int (ev_b y1))]) (st' := [.int 4]) (w' := ([] : List ev_E)) [] 2 (by with_unfolding_all rfl) trivial ?_
      cases hR
      exact ev_exit ⟨_, _, rfl, ⟨rfl, Or.inl rfl⟩, ⟨rfl, rfl⟩, Nat.le_refl _, Nat.le_refl _⟩
  replace hR := lf_f h9 hR
  by_cases h11 : v0 = 4
  · replace hR := lf_t h11 hR
    refine ev_lit h11 (ev_run [] 1 rfl trivial ?_)
    refine ev_run (cs := []) (pc' := 134) (L' := [some (.int v0), some (.int v1), some (.int (v1 - 48)), some (.int (ev_b y1))]) (st' := [.int 45, .int v1]) (w' := ([] : List ev_E)) [] 2 (by with_unfolding_all rfl) trivial ?_
    refine ev_br rfl rfl (fun h12 => ?_) (fun h12 => ?_)
    · replace hR := lf_f h12 hR
      refine ev_run (cs := []) (pc' := 149) (L' := [some (.int v0), some (.int v1), some (.int (v1 - 48)), some (.int (ev_b y1))]) (st' := [.int 9, .int 11, .int 10, .int (v1 - 48)]) (w' := ([] : List ev_E)) [] 4 (by with_unfolding_all rfl) trivial ?_
      obtain ⟨y4, h13, hR⟩ := lf_b hR
      refine ev_callS1 0 (t_X5_afterDigit F (v1 - 48) 10 11 9 _ h13) cs_X5_afterDigit ml_X5_180 rfl rfl rfl (Nat.le_of_ble_eq_true rfl) (by with_unfolding_all rfl) (Nat.le_of_ble_eq_true rfl) ⟨Nat.le_of_ble_eq_true rfl, Nat.le_of_ble_eq_true rfl⟩ ⟨Nat.le_refl _, Nat.le_refl _⟩ ?_ ?_
      · rintro r w ⟨rfl, rfl⟩; rfl
      rintro r w ⟨rfl, rfl⟩
      refine ev_nx (pc' := 152) (st' := [.int y4]) (w' := ([] : List ev_E)) rfl rfl (by with_unfolding_all rfl) rfl rfl ?_
      cases hR
      exact ev_exit ⟨_, _, rfl, ⟨rfl, Or.inl rfl⟩, ⟨rfl, rfl⟩, Nat.le_refl _, Nat.le_refl _⟩
    · replace hR := lf_t h12 hR
      refine ev_run (cs := []) (pc' := 152) (L' := [some (.int v0), some (.int v1), some (.int (v1 - 48)), some (.int (ev_b y1))]) (st' := [.int 9]) (w' := ([] : List ev_E)) [] 2 (by with_unfolding_all rfl) trivial ?_
      cases hR
      exact ev_exit ⟨_, _, rfl, ⟨rfl, Or.inl rfl⟩, ⟨rfl, rfl⟩, Nat.le_refl _, Nat.le_refl _⟩
  replace hR := lf_f h11 hR
  by_cases h14 : v0 = 5
  · replace hR := lf_t h14 hR
    refine ev_lit h14 (ev_run [] 1 rfl trivial ?_)
    refine ev_run (cs := []) (pc' := 160) (L' := [some (.int v0), some (.int v1), some (.int (v1 - 48)), some (.int (ev_b y1))]) (st' := [.int 6, .int 13, .int 12, .int (v1 - 48)]) (w' := ([] : List ev_E)) [] 4 (by with_unfolding_all rfl) trivial ?_
    obtain ⟨y5, h15, hR⟩ := lf_b hR
    refine ev_callS1 0 (t_X5_afterDigit F (v1 - 48) 12 13 6 _ h15) cs_X5_afterDigit ml_X5_180 rfl rfl rfl (Nat.le_of_ble_eq_true rfl) (by with_unfolding_all rfl) (Nat.le_of_ble_eq_true rfl) ⟨Nat.le_of_ble_eq_true rfl, Nat.le_of_ble_eq_true rfl⟩ ⟨Nat.le_refl _, Nat.le_refl _⟩ ?_ ?_
    · rintro r w ⟨rfl, rfl⟩; rfl
    rintro r w ⟨rfl, rfl⟩
    refine ev_nx (pc' := 163) (st' := [.int y5]) (w' := ([] : List ev_E)) rfl rfl (by with_unfolding_all rfl) rfl rfl ?_
    cases hR
    exact ev_exit ⟨_, _, rfl, ⟨rfl, Or.inl rfl⟩, ⟨rfl, rfl⟩, Nat.le_refl _, Nat.le_refl _⟩
  replace hR := lf_f h14 hR
  by_cases h16 : v0 = 6
  · replace hR := lf_t h16 hR
    refine ev_lit h16 (ev_run [] 1 rfl trivial ?_)
    refine ev_run (cs := []) (pc' := 167) (L' := [some (.int v0), some (.int v1), some (.int (v1 - 48)), some (.int (ev_b y1))]) (st' := [.int 46, .int v1]) (w' := ([] : List ev_E)) [] 2 (by with_unfolding_all rfl) trivial ?_
    refine ev_br rfl rfl (fun h17 => ?_) (fun h17 => ?_)
    · replace hR := lf_f h17 hR
      refine ev_run (cs := []) (pc' := 176) (L' := [some (.int v0), some (.int v1), some (.int (v1 - 48)), some (.int (ev_b y1))]) (st' := [.int (-1)]) (w' := ([] : List ev_E)) [] 1 (by with_unfolding_all rfl) trivial ?_
      cases hR
      exact ev_exit ⟨_, _, rfl, ⟨rfl, Or.inl rfl⟩, ⟨rfl, rfl⟩, Nat.le_refl _, Nat.le_refl _⟩
    · replace hR := lf_t h17 hR
      refine ev_run (cs := []) (pc' := 176) (L' := [some (.int v0), some (.int v1), some (.int (v1 - 48)), some (.int (ev_b y1))]) (st' := [.int 7]) (w' := ([] : List ev_E)) [] 2 (by with_unfolding_all rfl) trivial ?_
      cases hR
      exact ev_exit ⟨_, _, rfl, ⟨rfl, Or.inl rfl⟩, ⟨rfl, rfl⟩, Nat.le_refl _, Nat.le_refl _⟩
  replace hR := lf_f h16 hR
  by_cases h18 : v0 = 7
  · replace hR := lf_t h18 hR
    refine ev_lit h18 (ev_run [] 1 rfl trivial ?_)
    refine ev_run (cs := []) (pc' := 180) (L' := [some (.int v0), some (.int v1), some (.int (v1 - 48)), some (.int (ev_b y1))]) (st' := [.int 3, .int 0, .int (v1 - 48)]) (w' := ([] : List ev_E)) [] 3 (by with_unfolding_all rfl) trivial ?_
    obtain ⟨y6, h19, hR⟩ := lf_b hR
    refine ev_callS1 0 (t_X5_within F (v1 - 48) 0 3 _ h19) cs_X5_within ml_X5_46 rfl rfl rfl (Nat.le_of_ble_eq_true rfl) (by with_unfolding_all rfl) (Nat.le_of_ble_eq_true rfl) ⟨Nat.le_of_ble_eq_true rfl, Nat.le_of_ble_eq_true rfl⟩ ⟨Nat.le_refl _, Nat.le_refl _⟩ ?_ ?_
    · rintro r w ⟨rfl, rfl⟩; rfl
    rintro r w ⟨rfl, rfl⟩
    refine ev_nx (pc' := 183) (st' := [.int (ev_b y6)]) (w' := ([] : List ev_E)) rfl rfl (by with_unfolding_all rfl) rfl rfl ?_
    refine ev_br rfl rfl (fun h20 => ?_) (fun h20 => ?_)
    · replace hR := lf_z0 h20 hR
      refine ev_run (cs := []) (pc' := 191) (L' := [some (.int v0), some (.int v1), some (.int (v1 - 48)), some (.int (ev_b y1))]) (st' := [.int (-1)]) (w' := ([] : List ev_E)) [] 1 (by with_unfolding_all rfl) trivial ?_
      cases hR
      exact ev_exit ⟨_, _, rfl, ⟨rfl, Or.inl rfl⟩, ⟨rfl, rfl⟩, Nat.le_refl _, Nat.le_refl _⟩
    · replace hR := lf_z1 h20 hR
      refine ev_run (cs := []) (pc' := 191) (L' := [some (.int v0), some (.int v1), some (.int (v1 - 48)), some (.int (ev_b y1))]) (st' := [.int 3]) (w' := ([] : List ev_E)) [] 2 (by with_unfolding_all rfl) trivial ?_
      cases hR
      exact ev_exit ⟨_, _, rfl, ⟨rfl, Or.inl rfl⟩, ⟨rfl, rfl⟩, Nat.le_refl _, Nat.le_refl _⟩
  replace hR := lf_f h18 hR
  by_cases h21 : v0 = 8
  · replace hR := lf_t h21 hR
    refine ev_lit h21 (ev_run [] 1 rfl trivial ?_)
    refine ev_run (cs := []) (pc' := 196) (L' := [some (.int v0), some (.int v1), some (.int (v1 - 48)), some (.int (ev_b y1))]) (st' := [.int 9, .int 1, .int (v1 - 48)]) (w' := ([] : List ev_E)) [] 3 (by with_unfolding_all rfl) trivial ?_
    obtain ⟨y7, h22, hR⟩ := lf_b hR
    refine ev_callS1 0 (t_X5_within F (v1 - 48) 1 9 _ h22) cs_X5_within ml_X5_46 rfl rfl rfl (Nat.le_of_ble_eq_true rfl) (by with_unfolding_all rfl) (Nat.le_of_ble_eq_true rfl) ⟨Nat.le_of_ble_eq_true rfl, Nat.le_of_ble_eq_true rfl⟩ ⟨Nat.le_refl _, Nat.le_refl _⟩ ?_ ?_
    · rintro r w ⟨rfl, rfl⟩; rfl
    rintro r w ⟨rfl, rfl⟩
    refine ev_nx (pc' := 199) (st' := [.int (ev_b y7)]) (w' := ([] : List ev_E)) rfl rfl (by with_unfolding_all rfl) rfl rfl ?_
    refine ev_br rfl rfl (fun h23 => ?_) (fun h23 => ?_)
    · replace hR := lf_z0 h23 hR
      refine ev_run (cs := []) (pc' := 208) (L' := [some (.int v0), some (.int v1), some (.int (v1 - 48)), some (.int (ev_b y1))]) (st' := [.int (-1)]) (w' := ([] : List ev_E)) [] 1 (by with_unfolding_all rfl) trivial ?_
      cases hR
      exact ev_exit ⟨_, _, rfl, ⟨rfl, Or.inl rfl⟩, ⟨rfl, rfl⟩, Nat.le_refl _, Nat.le_refl _⟩
    · replace hR := lf_z1 h23 hR
      refine ev_run (cs := []) (pc' := 208) (L' := [some (.int v0), some (.int v1), some (.int (v1 - 48)), some (.int (ev_b y1))]) (st' := [.int 14]) (w' := ([] : List ev_E)) [] 2 (by with_unfolding_all rfl) trivial ?_
      cases hR
      exact ev_exit ⟨_, _, rfl, ⟨rfl, Or.inl rfl⟩, ⟨rfl, rfl⟩, Nat.le_refl _, Nat.le_refl _⟩
  replace hR := lf_f h21 hR
  by_cases h24 : v0 = 9
  · replace hR := lf_t h24 hR
    refine ev_lit h24 (ev_run [] 1 rfl trivial ?_)
    exact ev_to2 (t_X5_next_b305 F v1 _ hR) ⟨rfl, trivial⟩ rfl rfl
  replace hR := lf_f h24 hR
  by_cases h25 : v0 = 10
  · replace hR := lf_t h25 hR
    refine ev_lit h25 (ev_run [] 1 rfl trivial ?_)
    exact ev_to2 (t_X5_next_b209 F v1 (ev_b y1) _ hR) ⟨rfl, rfl, trivial⟩ rfl rfl
  replace hR := lf_f h25 hR
  by_cases h26 : v0 = 11
  · replace hR := lf_t h26 hR
    refine ev_lit h26 (ev_run [] 1 rfl trivial ?_)
    refine ev_run (cs := []) (pc' := 233) (L' := [some (.int v0), some (.int v1), some (.int (v1 - 48)), some (.int (ev_b y1))]) (st' := [.int 3, .int 0, .int (v1 - 48)]) (w' := ([] : List ev_E)) [] 3 (by with_unfolding_all rfl) trivial ?_
    obtain ⟨y8, h27, hR⟩ := lf_b hR
    refine ev_callS1 0 (t_X5_within F (v1 - 48) 0 3 _ h27) cs_X5_within ml_X5_46 rfl rfl rfl (Nat.le_of_ble_eq_true rfl) (by with_unfolding_all rfl) (Nat.le_of_ble_eq_true rfl) ⟨Nat.le_of_ble_eq_true rfl, Nat.le_of_ble_eq_true rfl⟩ ⟨Nat.le_refl _, Nat.le_refl _⟩ ?_ ?_
    · rintro r w ⟨rfl, rfl⟩; rfl
    rintro r w ⟨rfl, rfl⟩
    refine ev_nx (pc' := 236) (st' := [.int (ev_b y8)]) (w' := ([] : List ev_E)) rfl rfl (by with_unfolding_all rfl) rfl rfl ?_
    refine ev_br rfl rfl (fun h28 => ?_) (fun h28 => ?_)
    · replace hR := lf_z0 h28 hR
      refine ev_run (cs := []) (pc' := 247) (L' := [some (.int v0), some (.int v1), some (.int (v1 - 48)), some (.int (ev_b y1))]) (st' := [.int 59, .int v1]) (w' := ([] : List ev_E)) [] 2 (by with_unfolding_all rfl) trivial ?_
      refine ev_br rfl rfl (fun h29 => ?_) (fun h29 => ?_)
      · replace hR := lf_f h29 hR
        refine ev_run (cs := []) (pc' := 255) (L' := [some (.int v0), some (.int v1), some (.int (v1 - 48)), some (.int (ev_b y1))]) (st' := [.int (-1)]) (w' := ([] : List ev_E)) [] 1 (by with_unfolding_all rfl) trivial ?_
        cases hR
        exact ev_exit ⟨_, _, rfl, ⟨rfl, Or.inl rfl⟩, ⟨rfl, rfl⟩, Nat.le_refl _, Nat.le_refl _⟩
      · replace hR := lf_t h29 hR
        refine ev_run (cs := []) (pc' := 255) (L' := [some (.int v0), some (.int v1), some (.int (v1 - 48)), some (.int (ev_b y1))]) (st' := [.int 0]) (w' := ([] : List ev_E)) [] 2 (by with_unfolding_all rfl) trivial ?_
        cases hR
        exact ev_exit ⟨_, _, rfl, ⟨rfl, Or.inl rfl⟩, ⟨rfl, rfl⟩, Nat.le_refl _, Nat.le_refl _⟩
    · replace hR := lf_z1 h28 hR
      refine ev_run (cs := []) (pc' := 255) (L' := [some (.int v0), some (.int v1), some (.int (v1 - 48)), some (.int (ev_b y1))]) (st' := [.int 9]) (w' := ([] : List ev_E)) [] 2 (by with_unfolding_all rfl) trivial ?_
      cases hR
      exact ev_exit ⟨_, _, rfl, ⟨rfl, Or.inl rfl⟩, ⟨rfl, rfl⟩, Nat.le_refl _, Nat.le_refl _⟩
  replace hR := lf_f h26 hR
  by_cases h30 : v0 = 12
  · replace hR := lf_t h30 hR
    refine ev_lit h30 (ev_run [] 1 rfl trivial ?_)
    refine ev_run (cs := []) (pc' := 257) (L' := [some (.int v0), some (.int v1), some (.int (v1 - 48)), some (.int (ev_b y1))]) (st' := [.int (ev_b y1)]) (w' := ([] : List ev_E)) [] 1 (by with_unfolding_all rfl) trivial ?_
    refine ev_br rfl rfl (fun h31 => ?_) (fun h31 => ?_)
    · replace hR := lf_z0 h31 hR
      refine ev_run (cs := []) (pc' := 268) (L' := [some (.int v0), some (.int v1), some (.int (v1 - 48)), some (.int (ev_b y1))]) (st' := [.int 46, .int v1]) (w' := ([] : List ev_E)) [] 2 (by with_unfolding_all rfl) trivial ?_
      refine ev_br rfl rfl (fun h32 => ?_) (fun h32 => ?_)
      · replace hR := lf_f h32 hR
        refine ev_run (cs := []) (pc' := 277) (L' := [some (.int v0), some (.int v1), some (.int (v1 - 48)), some (.int (ev_b y1))]) (st' := [.int (-1)]) (w' := ([] : List ev_E)) [] 1 (by with_unfolding_all rfl) trivial ?_
        cases hR
        exact ev_exit ⟨_, _, rfl, ⟨rfl, Or.inl rfl⟩, ⟨rfl, rfl⟩, Nat.le_refl _, Nat.le_refl _⟩
      · replace hR := lf_t h32 hR
        refine ev_run (cs := []) (pc' := 277) (L' := [some (.int v0), some (.int v1), some (.int (v1 - 48)), some (.int (ev_b y1))]) (st' := [.int 7]) (w' := ([] : List ev_E)) [] 2 (by with_unfolding_all rfl) trivial ?_
        cases hR
        exact ev_exit ⟨_, _, rfl, ⟨rfl, Or.inl rfl⟩, ⟨rfl, rfl⟩, Nat.le_refl _, Nat.le_refl _⟩
    · replace hR := lf_z1 h31 hR
      refine ev_run (cs := []) (pc' := 277) (L' := [some (.int v0), some (.int v1), some (.int (v1 - 48)), some (.int (ev_b y1))]) (st' := [.int 6]) (w' := ([] : List ev_E)) [] 2 (by with_unfolding_all rfl) trivial ?_
      cases hR
      exact ev_exit ⟨_, _, rfl, ⟨rfl, Or.inl rfl⟩, ⟨rfl, rfl⟩, Nat.le_refl _, Nat.le_refl _⟩
  replace hR := lf_f h30 hR
  by_cases h33 : v0 = 13
  · replace hR := lf_t h33 hR
    refine ev_lit h33 (ev_run [] 1 rfl trivial ?_)
    refine ev_run (cs := []) (pc' := 281) (L' := [some (.int v0), some (.int v1), some (.int (v1 - 48)), some (.int (ev_b y1))]) (st' := [.int 3, .int 0, .int (v1 - 48)]) (w' := ([] : List ev_E)) [] 3 (by with_unfolding_all rfl) trivial ?_
    obtain ⟨y9, h34, hR⟩ := lf_b hR
    refine ev_callS1 0 (t_X5_within F (v1 - 48) 0 3 _ h34) cs_X5_within ml_X5_46 rfl rfl rfl (Nat.le_of_ble_eq_true rfl) (by with_unfolding_all rfl) (Nat.le_of_ble_eq_true rfl) ⟨Nat.le_of_ble_eq_true rfl, Nat.le_of_ble_eq_true rfl⟩ ⟨Nat.le_refl _, Nat.le_refl _⟩ ?_ ?_
    · rintro r w ⟨rfl, rfl⟩; rfl
    rintro r w ⟨rfl, rfl⟩
    refine ev_nx (pc' := 284) (st' := [.int (ev_b y9)]) (w' := ([] : List ev_E)) rfl rfl (by with_unfolding_all rfl) rfl rfl ?_
    refine ev_br rfl rfl (fun h35 => ?_) (fun h35 => ?_)
    · replace hR := lf_z0 h35 hR
      refine ev_run (cs := []) (pc' := 295) (L' := [some (.int v0), some (.int v1), some (.int (v1 - 48)), some (.int (ev_b y1))]) (st' := [.int 46, .int v1]) (w' := ([] : List ev_E)) [] 2 (by with_unfolding_all rfl) trivial ?_
      refine ev_br rfl rfl (fun h36 => ?_) (fun h36 => ?_)
      · replace hR := lf_f h36 hR
        refine ev_run (cs := []) (pc' := 304) (L' := [some (.int v0), some (.int v1), some (.int (v1 - 48)), some (.int (ev_b y1))]) (st' := [.int (-1)]) (w' := ([] : List ev_E)) [] 1 (by with_unfolding_all rfl) trivial ?_
        cases hR
        exact ev_exit ⟨_, _, rfl, ⟨rfl, Or.inl rfl⟩, ⟨rfl, rfl⟩, Nat.le_refl _, Nat.le_refl _⟩
      · replace hR := lf_t h36 hR
        refine ev_run (cs := []) (pc' := 304) (L' := [some (.int v0), some (.int v1), some (.int (v1 - 48)), some (.int (ev_b y1))]) (st' := [.int 7]) (w' := ([] : List ev_E)) [] 2 (by with_unfolding_all rfl) trivial ?_
        cases hR
        exact ev_exit ⟨_, _, rfl, ⟨rfl, Or.inl rfl⟩, ⟨rfl, rfl⟩, Nat.le_refl _, Nat.le_refl _⟩
    · replace hR := lf_z1 h35 hR
      refine ev_run (cs := []) (pc' := 304) (L' := [some (.int v0), some (.int v1), some (.int (v1 - 48)), some (.int (ev_b y1))]) (st' := [.int 6]) (w' := ([] : List ev_E)) [] 2 (by with_unfolding_all rfl) trivial ?_
      cases hR
      exact ev_exit ⟨_, _, rfl, ⟨rfl, Or.inl rfl⟩, ⟨rfl, rfl⟩, Nat.le_refl _, Nat.le_refl _⟩
  replace hR := lf_f h33 hR
  by_cases h37 : v0 = 14
  · replace hR := lf_t h37 hR
    refine ev_lit h37 (ev_run [] 1 rfl trivial ?_)
    exact ev_to2 (t_X5_next_b209 F v1 (ev_b y1) _ hR) ⟨rfl, rfl, trivial⟩ rfl rfl
  replace hR := lf_f h37 hR
  refine ev_tso 305 rfl ?_ rfl ?_
  · have k0 := lf_nt h2; have k1 := lf_nt h4; have k2 := lf_nt h6; have k3 := lf_nt h9; have k4 := lf_nt h11; have k5 := lf_nt h14; have k6 := lf_nt h16; have k7 := lf_nt h18; have k8 := lf_nt h21; have k9 := lf_nt h24; have k10 := lf_nt h25; have k11 := lf_nt h26; have k12 := lf_nt h30; have k13 := lf_nt h33; have k14 := lf_nt h37; rw [show (0 : Int32).toInt = 0 from rfl] at k0; rw [show (1 : Int32).toInt = 1 from rfl] at k1; rw [show (2 : Int32).toInt = 2 from rfl] at k2; rw [show (3 : Int32).toInt = 3 from rfl] at k3; rw [show (4 : Int32).toInt = 4 from rfl] at k4; rw [show (5 : Int32).toInt = 5 from rfl] at k5; rw [show (6 : Int32).toInt = 6 from rfl] at k6; rw [show (7 : Int32).toInt = 7 from rfl] at k7; rw [show (8 : Int32).toInt = 8 from rfl] at k8; rw [show (9 : Int32).toInt = 9 from rfl] at k9; rw [show (10 : Int32).toInt = 10 from rfl] at k10; rw [show (11 : Int32).toInt = 11 from rfl] at k11; rw [show (12 : Int32).toInt = 12 from rfl] at k12; rw [show (13 : Int32).toInt = 13 from rfl] at k13; rw [show (14 : Int32).toInt = 14 from rfl] at k14; omega
  exact ev_to2 (t_X5_next_b305 F v1 _ hR) ⟨rfl, trivial⟩ rfl rfl

def s_X5_firstError_l9 (F : Nat) (u : S_X5) : Nat → Int32 → Int32 → Option (Int32 × S_X5)
  | 0 => fun _ _ => none
  | n + 1 => fun v1 v2 => if (a_X5_textLength u) ≤ v2 then (some (a_X5_textLength u, u)) else (if lf_ix v2 60 then ((s_X5_next F v1 ((a_X5_text u) v2.toNatClampNeg)).bind fun y1 => (if y1 = (-1) then (some (v2, u)) else (s_X5_firstError_l9 F u n y1 (v2 + 1)))) else none)
theorem e_X5_firstError_l9 (F : Nat) (u : S_X5) (n : Nat) (v1 : Int32) (v2 : Int32) : s_X5_firstError_l9 F u (n + 1) v1 v2 = if (a_X5_textLength u) ≤ v2 then (some (a_X5_textLength u, u)) else (if lf_ix v2 60 then ((s_X5_next F v1 ((a_X5_text u) v2.toNatClampNeg)).bind fun y1 => (if y1 = (-1) then (some (v2, u)) else (s_X5_firstError_l9 F u n y1 (v2 + 1)))) else none) := rfl
set_option maxHeartbeats 4000000 in
set_option maxRecDepth 20000 in
theorem t_X5_firstError_l9 (F : Nat) (u : S_X5) (x : (Int32 × S_X5))  : ∀ (n : Nat) (v1 : Int32) (v2 : Int32), s_X5_firstError_l9 F u n v1 v2 = some x → ev_V mm_X5_firstError none (ev_XR mm_X5_firstError (fun r w => r = some (.int x.1) ∧ w = W_X5 x.2)) 9 [some (.ref 0), some (.int v1), some (.int v2)] [] (W_X5 u) 0 0 := by
  intro n
  induction n with
  | zero => intro v1 v2 hR; cases hR
  | succ n hk9 =>
    intro v1 v2 hR
    unfold s_X5_firstError_l9 at hR
    refine ev_run (cs := []) (pc' := 14) (L' := [some (.ref 0), some (.int v1), some (.int v2)]) (st' := [.int (a_X5_textLength u), .int v2]) (w' := W_X5 u) [] 3 (by with_unfolding_all rfl) trivial ?_
    refine ev_br rfl rfl (fun h1 => ?_) (fun h1 => ?_)
    · replace hR := lf_t h1 hR
      refine ev_run (cs := []) (pc' := 45) (L' := [some (.ref 0), some (.int v1), some (.int v2)]) (st' := [.int (a_X5_textLength u)]) (w' := W_X5 u) [] 2 (by with_unfolding_all rfl) trivial ?_
      cases hR
      exact ev_exit ⟨_, _, rfl, ⟨rfl, Or.inl rfl⟩, ⟨rfl, rfl⟩, Nat.le_refl _, Nat.le_refl _⟩
    · replace hR := lf_f h1 hR
      obtain ⟨h2, hR⟩ := lf_g hR
      refine ev_run (cs := [lf_ix v2 60]) (pc' := 24) (L' := [some (.ref 0), some (.int v1), some (.int v2)]) (st' := [.int ((a_X5_text u) v2.toNatClampNeg), .int v1]) (w' := W_X5 u) [] 5 (by with_unfolding_all rfl) (h2) ?_
      obtain ⟨y1, h3, hR⟩ := lf_b hR
      refine ev_callS1 0 (t_X5_next F v1 ((a_X5_text u) v2.toNatClampNeg) _ h3) cs_X5_next ml_X5_184 rfl rfl rfl (Nat.le_of_ble_eq_true rfl) (by with_unfolding_all rfl) (Nat.le_of_ble_eq_true rfl) ⟨Nat.le_of_ble_eq_true rfl, Nat.le_of_ble_eq_true rfl⟩ ⟨Nat.le_refl _, Nat.le_refl _⟩ ?_ ?_
      · rintro r w ⟨rfl, rfl⟩; rfl
      rintro r w ⟨rfl, rfl⟩
      refine ev_nx (pc' := 27) (st' := [.int y1]) (w' := W_X5 u) rfl rfl (by with_unfolding_all rfl) rfl rfl ?_
      refine ev_run (cs := []) (pc' := 30) (L' := [some (.ref 0), some (.int y1), some (.int v2)]) (st' := [.int (-1), .int y1]) (w' := W_X5 u) [] 3 (by with_unfolding_all rfl) trivial ?_
      refine ev_br rfl rfl (fun h4 => ?_) (fun h4 => ?_)
      · replace hR := lf_f h4 hR
        refine ev_run (cs := []) (pc' := 9) (L' := [some (.ref 0), some (.int y1), some (.int (v2 + 1))]) (st' := []) (w' := W_X5 u) [] 2 (by with_unfolding_all rfl) trivial ?_
        exact ev_to2 (hk9 _ _ hR) ⟨rfl, rfl, rfl, trivial⟩ rfl rfl
      · replace hR := lf_t h4 hR
        refine ev_run (cs := []) (pc' := 34) (L' := [some (.ref 0), some (.int y1), some (.int v2)]) (st' := [.int v2]) (w' := W_X5 u) [] 1 (by with_unfolding_all rfl) trivial ?_
        cases hR
        exact ev_exit ⟨_, _, rfl, ⟨rfl, Or.inl rfl⟩, ⟨rfl, rfl⟩, Nat.le_refl _, Nat.le_refl _⟩

def s_X5_firstError (F : Nat) (u : S_X5) : Option (Int32 × S_X5) := s_X5_firstError_l9 F (m_X5_thrown 0 u) F 0 0
set_option maxHeartbeats 4000000 in
set_option maxRecDepth 20000 in
theorem t_X5_firstError (F : Nat) (u : S_X5) (x : (Int32 × S_X5)) (hR : s_X5_firstError F u = some x) : ev_A yX5_firstError mm_X5_firstError none [.ref 0] (W_X5 u) (fun r w => r = some (.int x.1) ∧ w = W_X5 x.2) := by
  unfold s_X5_firstError at hR
  refine ev_start ok_X5_firstError (by decide +kernel) rfl rfl (Nat.le_of_ble_eq_true rfl) ?_
  refine ev_run (cs := []) (pc' := 9) (L' := [some (.ref 0), some (.int 0), some (.int 0)]) (st' := []) (w' := W_X5 (m_X5_thrown 0 u)) [] 7 (by with_unfolding_all rfl) trivial ?_
  exact ev_to2 (t_X5_firstError_l9 F (m_X5_thrown 0 u) _ F 0 0 hR) ⟨rfl, rfl, rfl, trivial⟩ rfl rfl

def s_X5_isStepOver (F : Nat) (v0 : Int32) : Option Bool := if v0 = 9 then (some (true)) else (if v0 = 10 then (some (true)) else (if v0 = 11 then (some (true)) else (if v0 = 14 then (some (true)) else (some (false)))))
set_option maxHeartbeats 4000000 in
set_option maxRecDepth 20000 in
theorem t_X5_isStepOver (F : Nat) (v0 : Int32) (x : Bool) (hR : s_X5_isStepOver F v0 = some x) : ev_A yX5_isStepOver mm_X5_isStepOver none [.int v0] (([] : List ev_E)) (fun r w => r = some (.int (ev_b x)) ∧ w = ([] : List ev_E)) := by
  unfold s_X5_isStepOver at hR
  refine ev_start ok_X5_isStepOver (by decide +kernel) rfl rfl (Nat.le_of_ble_eq_true rfl) ?_
  refine ev_run (cs := []) (pc' := 3) (L' := [some (.int v0)]) (st' := [.int 9, .int v0]) (w' := ([] : List ev_E)) [] 2 (by with_unfolding_all rfl) trivial ?_
  refine ev_br rfl rfl (fun h1 => ?_) (fun h1 => ?_)
  · replace hR := lf_t h1 hR
    refine ev_run (cs := []) (pc' := 29) (L' := [some (.int v0)]) (st' := [.int 1]) (w' := ([] : List ev_E)) [] 2 (by with_unfolding_all rfl) trivial ?_
    cases hR
    exact ev_exit ⟨_, _, rfl, ⟨rfl, Or.inr ⟨rfl, rfl⟩⟩, ⟨rfl, rfl⟩, Nat.le_refl _, Nat.le_refl _⟩
  · replace hR := lf_f h1 hR
    refine ev_run (cs := []) (pc' := 9) (L' := [some (.int v0)]) (st' := [.int 10, .int v0]) (w' := ([] : List ev_E)) [] 2 (by with_unfolding_all rfl) trivial ?_
    refine ev_br rfl rfl (fun h2 => ?_) (fun h2 => ?_)
    · replace hR := lf_t h2 hR
      refine ev_run (cs := []) (pc' := 29) (L' := [some (.int v0)]) (st' := [.int 1]) (w' := ([] : List ev_E)) [] 2 (by with_unfolding_all rfl) trivial ?_
      cases hR
      exact ev_exit ⟨_, _, rfl, ⟨rfl, Or.inr ⟨rfl, rfl⟩⟩, ⟨rfl, rfl⟩, Nat.le_refl _, Nat.le_refl _⟩
    · replace hR := lf_f h2 hR
      refine ev_run (cs := []) (pc' := 15) (L' := [some (.int v0)]) (st' := [.int 11, .int v0]) (w' := ([] : List ev_E)) [] 2 (by with_unfolding_all rfl) trivial ?_
      refine ev_br rfl rfl (fun h3 => ?_) (fun h3 => ?_)
      · replace hR := lf_t h3 hR
        refine ev_run (cs := []) (pc' := 29) (L' := [some (.int v0)]) (st' := [.int 1]) (w' := ([] : List ev_E)) [] 2 (by with_unfolding_all rfl) trivial ?_
        cases hR
        exact ev_exit ⟨_, _, rfl, ⟨rfl, Or.inr ⟨rfl, rfl⟩⟩, ⟨rfl, rfl⟩, Nat.le_refl _, Nat.le_refl _⟩
      · replace hR := lf_f h3 hR
        refine ev_run (cs := []) (pc' := 21) (L' := [some (.int v0)]) (st' := [.int 14, .int v0]) (w' := ([] : List ev_E)) [] 2 (by with_unfolding_all rfl) trivial ?_
        refine ev_br rfl rfl (fun h4 => ?_) (fun h4 => ?_)
        · replace hR := lf_f h4 hR
          refine ev_run (cs := []) (pc' := 29) (L' := [some (.int v0)]) (st' := [.int 0]) (w' := ([] : List ev_E)) [] 1 (by with_unfolding_all rfl) trivial ?_
          cases hR
          exact ev_exit ⟨_, _, rfl, ⟨rfl, Or.inr ⟨rfl, rfl⟩⟩, ⟨rfl, rfl⟩, Nat.le_refl _, Nat.le_refl _⟩
        · replace hR := lf_t h4 hR
          refine ev_run (cs := []) (pc' := 29) (L' := [some (.int v0)]) (st' := [.int 1]) (w' := ([] : List ev_E)) [] 2 (by with_unfolding_all rfl) trivial ?_
          cases hR
          exact ev_exit ⟨_, _, rfl, ⟨rfl, Or.inr ⟨rfl, rfl⟩⟩, ⟨rfl, rfl⟩, Nat.le_refl _, Nat.le_refl _⟩

def s_X5_isProgram_b34 (F : Nat) (u : S_X5) (v1 : Int32) : Option Bool := (s_X5_isStepOver F v1).bind fun y1 => (some (y1))
set_option maxHeartbeats 4000000 in
set_option maxRecDepth 20000 in
theorem t_X5_isProgram_b34 (F : Nat) (u : S_X5) (v1 : Int32) (x : Bool)  (hR : s_X5_isProgram_b34 F u v1 = some x) : ev_V mm_X5_isProgram none (ev_XR mm_X5_isProgram (fun r w => r = some (.int (ev_b x)) ∧ w = W_X5 u)) 34 [some (.ref 0), some (.int v1), none] [] (W_X5 u) 0 0 := by
  unfold s_X5_isProgram_b34 at hR
  refine ev_run (cs := []) (pc' := 35) (L' := [some (.ref 0), some (.int v1), none]) (st' := [.int v1]) (w' := W_X5 u) [] 1 (by with_unfolding_all rfl) trivial ?_
  obtain ⟨y1, h1, hR⟩ := lf_b hR
  refine ev_callS1 0 (t_X5_isStepOver F v1 _ h1) cs_X5_isStepOver ml_X5_187 rfl rfl rfl (Nat.le_of_ble_eq_true rfl) (by with_unfolding_all rfl) (Nat.le_of_ble_eq_true rfl) ⟨Nat.le_of_ble_eq_true rfl, Nat.le_of_ble_eq_true rfl⟩ ⟨Nat.le_refl _, Nat.le_refl _⟩ ?_ ?_
  · rintro r w ⟨rfl, rfl⟩; rfl
  rintro r w ⟨rfl, rfl⟩
  refine ev_nx (pc' := 38) (st' := [.int (ev_b y1)]) (w' := W_X5 u) rfl rfl (by with_unfolding_all rfl) rfl rfl ?_
  cases hR
  exact ev_exit ⟨_, _, rfl, ⟨rfl, Or.inr ⟨rfl, ev_bn _⟩⟩, ⟨rfl, rfl⟩, Nat.le_refl _, Nat.le_refl _⟩

def s_X5_isProgram_l4 (F : Nat) (u : S_X5) : Nat → Int32 → Int32 → Option Bool
  | 0 => fun _ _ => none
  | n + 1 => fun v1 v2 => if (a_X5_textLength u) ≤ v2 then (s_X5_isProgram_b34 F u v1) else (if v1 = (-1) then (s_X5_isProgram_b34 F u v1) else (if lf_ix v2 60 then ((s_X5_next F v1 ((a_X5_text u) v2.toNatClampNeg)).bind fun y1 => (s_X5_isProgram_l4 F u n y1 (v2 + 1))) else none))
theorem e_X5_isProgram_l4 (F : Nat) (u : S_X5) (n : Nat) (v1 : Int32) (v2 : Int32) : s_X5_isProgram_l4 F u (n + 1) v1 v2 = if (a_X5_textLength u) ≤ v2 then (s_X5_isProgram_b34 F u v1) else (if v1 = (-1) then (s_X5_isProgram_b34 F u v1) else (if lf_ix v2 60 then ((s_X5_next F v1 ((a_X5_text u) v2.toNatClampNeg)).bind fun y1 => (s_X5_isProgram_l4 F u n y1 (v2 + 1))) else none)) := rfl
set_option maxHeartbeats 4000000 in
set_option maxRecDepth 20000 in
theorem t_X5_isProgram_l4 (F : Nat) (u : S_X5) (x : Bool)  : ∀ (n : Nat) (v1 : Int32) (v2 : Int32), s_X5_isProgram_l4 F u n v1 v2 = some x → ev_V mm_X5_isProgram none (ev_XR mm_X5_isProgram (fun r w => r = some (.int (ev_b x)) ∧ w = W_X5 u)) 4 [some (.ref 0), some (.int v1), some (.int v2)] [] (W_X5 u) 0 0 := by
  intro n
  induction n with
  | zero => intro v1 v2 hR; cases hR
  | succ n hk4 =>
    intro v1 v2 hR
    unfold s_X5_isProgram_l4 at hR
    refine ev_run (cs := []) (pc' := 9) (L' := [some (.ref 0), some (.int v1), some (.int v2)]) (st' := [.int (a_X5_textLength u), .int v2]) (w' := W_X5 u) [] 3 (by with_unfolding_all rfl) trivial ?_
    refine ev_br rfl rfl (fun h1 => ?_) (fun h1 => ?_)
    · replace hR := lf_t h1 hR
      exact ev_to2 (t_X5_isProgram_b34 F u v1 _ hR) ⟨rfl, rfl, trivial⟩ rfl rfl
    · replace hR := lf_f h1 hR
      refine ev_run (cs := []) (pc' := 14) (L' := [some (.ref 0), some (.int v1), some (.int v2)]) (st' := [.int (-1), .int v1]) (w' := W_X5 u) [] 2 (by with_unfolding_all rfl) trivial ?_
      refine ev_br rfl rfl (fun h2 => ?_) (fun h2 => ?_)
      · replace hR := lf_t h2 hR
        exact ev_to2 (t_X5_isProgram_b34 F u v1 _ hR) ⟨rfl, rfl, trivial⟩ rfl rfl
      · replace hR := lf_f h2 hR
        obtain ⟨h3, hR⟩ := lf_g hR
        refine ev_run (cs := [lf_ix v2 60]) (pc' := 24) (L' := [some (.ref 0), some (.int v1), some (.int v2)]) (st' := [.int ((a_X5_text u) v2.toNatClampNeg), .int v1]) (w' := W_X5 u) [] 5 (by with_unfolding_all rfl) (h3) ?_
        obtain ⟨y1, h4, hR⟩ := lf_b hR
        refine ev_callS1 0 (t_X5_next F v1 ((a_X5_text u) v2.toNatClampNeg) _ h4) cs_X5_next ml_X5_184 rfl rfl rfl (Nat.le_of_ble_eq_true rfl) (by with_unfolding_all rfl) (Nat.le_of_ble_eq_true rfl) ⟨Nat.le_of_ble_eq_true rfl, Nat.le_of_ble_eq_true rfl⟩ ⟨Nat.le_refl _, Nat.le_refl _⟩ ?_ ?_
        · rintro r w ⟨rfl, rfl⟩; rfl
        rintro r w ⟨rfl, rfl⟩
        refine ev_nx (pc' := 27) (st' := [.int y1]) (w' := W_X5 u) rfl rfl (by with_unfolding_all rfl) rfl rfl ?_
        refine ev_run (cs := []) (pc' := 4) (L' := [some (.ref 0), some (.int y1), some (.int (v2 + 1))]) (st' := []) (w' := W_X5 u) [] 3 (by with_unfolding_all rfl) trivial ?_
        exact ev_to2 (hk4 _ _ hR) ⟨rfl, rfl, rfl, trivial⟩ rfl rfl

def s_X5_isProgram (F : Nat) (u : S_X5) : Option Bool := s_X5_isProgram_l4 F u F 0 0
set_option maxHeartbeats 4000000 in
set_option maxRecDepth 20000 in
theorem t_X5_isProgram (F : Nat) (u : S_X5) (x : Bool) (hR : s_X5_isProgram F u = some x) : ev_A yX5_isProgram mm_X5_isProgram none [.ref 0] (W_X5 u) (fun r w => r = some (.int (ev_b x)) ∧ w = W_X5 u) := by
  unfold s_X5_isProgram at hR
  refine ev_start ok_X5_isProgram (by decide +kernel) rfl rfl (Nat.le_of_ble_eq_true rfl) ?_
  refine ev_run (cs := []) (pc' := 4) (L' := [some (.ref 0), some (.int 0), some (.int 0)]) (st' := []) (w' := W_X5 u) [] 4 (by with_unfolding_all rfl) trivial ?_
  exact ev_to2 (t_X5_isProgram_l4 F u _ F 0 0 hR) ⟨rfl, rfl, rfl, trivial⟩ rfl rfl

def s_X5_note_b96 (F : Nat) (u : S_X5) (v3 : Int32) : Option S_X5 := (s_X5_within F v3 0 9).bind fun y1 => (if y1 then (some (m_X5_first ((10 * (a_X5_first u)) + v3) u)) else (some (m_X5_first (a_X5_first u) u)))
set_option maxHeartbeats 4000000 in
set_option maxRecDepth 20000 in
theorem t_X5_note_b96 (F : Nat) (u : S_X5) (v3 : Int32) (x : S_X5)  (hR : s_X5_note_b96 F u v3 = some x) : ev_V mm_X5_note none (ev_XR mm_X5_note (fun r w => r = none ∧ w = W_X5 x)) 96 [some (.ref 0), none, none, some (.int v3)] [] (W_X5 u) 0 0 := by
  unfold s_X5_note_b96 at hR
  refine ev_run (cs := []) (pc' := 101) (L' := [some (.ref 0), none, none, some (.int v3)]) (st' := [.int 9, .int 0, .int v3, .ref 0]) (w' := W_X5 u) [] 4 (by with_unfolding_all rfl) trivial ?_
  obtain ⟨y1, h1, hR⟩ := lf_b hR
  refine ev_callS1 0 (t_X5_within F v3 0 9 _ h1) cs_X5_within ml_X5_46 rfl rfl rfl (Nat.le_of_ble_eq_true rfl) (by with_unfolding_all rfl) (Nat.le_of_ble_eq_true rfl) ⟨Nat.le_of_ble_eq_true rfl, Nat.le_of_ble_eq_true rfl⟩ ⟨Nat.le_refl _, Nat.le_refl _⟩ ?_ ?_
  · rintro r w ⟨rfl, rfl⟩; rfl
  rintro r w ⟨rfl, rfl⟩
  refine ev_nx (pc' := 104) (st' := [.int (ev_b y1), .ref 0]) (w' := W_X5 u) rfl rfl (by with_unfolding_all rfl) rfl rfl ?_
  refine ev_br rfl rfl (fun h2 => ?_) (fun h2 => ?_)
  · replace hR := lf_z0 h2 hR
    refine ev_run (cs := []) (pc' := 171) (L' := [some (.ref 0), none, none, some (.int v3)]) (st' := []) (w' := W_X5 (m_X5_first (a_X5_first u) u)) [] 4 (by with_unfolding_all rfl) trivial ?_
    cases hR
    exact ev_exit ⟨_, _, rfl, ⟨rfl, rfl⟩, ⟨rfl, rfl⟩, Nat.le_refl _, Nat.le_refl _⟩
  · replace hR := lf_z1 h2 hR
    refine ev_run (cs := []) (pc' := 171) (L' := [some (.ref 0), none, none, some (.int v3)]) (st' := []) (w' := W_X5 (m_X5_first ((10 * (a_X5_first u)) + v3) u)) [] 9 (by with_unfolding_all rfl) trivial ?_
    cases hR
    exact ev_exit ⟨_, _, rfl, ⟨rfl, rfl⟩, ⟨rfl, rfl⟩, Nat.le_refl _, Nat.le_refl _⟩

def s_X5_note_b155 (F : Nat) (u : S_X5) (v3 : Int32) : Option S_X5 := some (m_X5_held ((10 * (a_X5_held u)) + v3) u)
set_option maxHeartbeats 4000000 in
set_option maxRecDepth 20000 in
theorem t_X5_note_b155 (F : Nat) (u : S_X5) (v3 : Int32) (x : S_X5)  (hR : s_X5_note_b155 F u v3 = some x) : ev_V mm_X5_note none (ev_XR mm_X5_note (fun r w => r = none ∧ w = W_X5 x)) 155 [some (.ref 0), none, none, some (.int v3)] [] (W_X5 u) 0 0 := by
  unfold s_X5_note_b155 at hR
  refine ev_run (cs := []) (pc' := 171) (L' := [some (.ref 0), none, none, some (.int v3)]) (st' := []) (w' := W_X5 (m_X5_held ((10 * (a_X5_held u)) + v3) u)) [] 9 (by with_unfolding_all rfl) trivial ?_
  cases hR
  exact ev_exit ⟨_, _, rfl, ⟨rfl, rfl⟩, ⟨rfl, rfl⟩, Nat.le_refl _, Nat.le_refl _⟩

def s_X5_note (F : Nat) (u : S_X5) (v1 : Int32) (v2 : Int32) : Option S_X5 := if v1 = 0 then (some (m_X5_kind v2 u)) else (if v1 = 1 then (some (m_X5_first (v2 - 48) u)) else (if v1 = 2 then (some (m_X5_first (v2 - 48) u)) else (if v1 = 3 then (some (u)) else (if v1 = 4 then (if v2 = 45 then (some (m_X5_held (-1) u)) else (some (m_X5_held (v2 - 48) u))) else (if v1 = 5 then (some (m_X5_first (v2 - 48) u)) else (if v1 = 6 then (some (u)) else (if v1 = 7 then (some (m_X5_second (v2 - 48) u)) else (if v1 = 8 then (some (m_X5_first (v2 - 48) u)) else (if v1 = 9 then (some (u)) else (if v1 = 10 then (s_X5_note_b155 F u (v2 - 48)) else (if v1 = 11 then (s_X5_note_b155 F u (v2 - 48)) else (if v1 = 12 then (s_X5_note_b96 F u (v2 - 48)) else (if v1 = 13 then (s_X5_note_b96 F u (v2 - 48)) else (if v1 = 14 then (s_X5_note_b96 F u (v2 - 48)) else (some (u))))))))))))))))
set_option maxHeartbeats 4000000 in
set_option maxRecDepth 20000 in
theorem t_X5_note (F : Nat) (u : S_X5) (v1 : Int32) (v2 : Int32) (x : S_X5) (hR : s_X5_note F u v1 v2 = some x) : ev_A yX5_note mm_X5_note none [.ref 0, .int v1, .int v2] (W_X5 u) (fun r w => r = none ∧ w = W_X5 x) := by
  unfold s_X5_note at hR
  refine ev_start ok_X5_note (by decide +kernel) rfl rfl (Nat.le_of_ble_eq_true rfl) ?_
  refine ev_run (cs := []) (pc' := 6) (L' := [some (.ref 0), some (.int v1), some (.int v2), some (.int (v2 - 48))]) (st' := [.int v1]) (w' := W_X5 u) [] 5 (by with_unfolding_all rfl) trivial ?_
  by_cases h1 : v1 = 0
  · replace hR := lf_t h1 hR
    refine ev_lit h1 (ev_run [] 1 rfl trivial ?_)
    refine ev_run (cs := []) (pc' := 171) (L' := [some (.ref 0), some (.int v1), some (.int v2), some (.int (v2 - 48))]) (st' := []) (w' := W_X5 (m_X5_kind v2 u)) [] 4 (by with_unfolding_all rfl) trivial ?_
    cases hR
    exact ev_exit ⟨_, _, rfl, ⟨rfl, rfl⟩, ⟨rfl, rfl⟩, Nat.le_refl _, Nat.le_refl _⟩
  replace hR := lf_f h1 hR
  by_cases h2 : v1 = 1
  · replace hR := lf_t h2 hR
    refine ev_lit h2 (ev_run [] 1 rfl trivial ?_)
    refine ev_run (cs := []) (pc' := 171) (L' := [some (.ref 0), some (.int v1), some (.int v2), some (.int (v2 - 48))]) (st' := []) (w' := W_X5 (m_X5_first (v2 - 48) u)) [] 4 (by with_unfolding_all rfl) trivial ?_
    cases hR
    exact ev_exit ⟨_, _, rfl, ⟨rfl, rfl⟩, ⟨rfl, rfl⟩, Nat.le_refl _, Nat.le_refl _⟩
  replace hR := lf_f h2 hR
  by_cases h3 : v1 = 2
  · replace hR := lf_t h3 hR
    refine ev_lit h3 (ev_run [] 1 rfl trivial ?_)
    refine ev_run (cs := []) (pc' := 171) (L' := [some (.ref 0), some (.int v1), some (.int v2), some (.int (v2 - 48))]) (st' := []) (w' := W_X5 (m_X5_first (v2 - 48) u)) [] 4 (by with_unfolding_all rfl) trivial ?_
    cases hR
    exact ev_exit ⟨_, _, rfl, ⟨rfl, rfl⟩, ⟨rfl, rfl⟩, Nat.le_refl _, Nat.le_refl _⟩
  replace hR := lf_f h3 hR
  by_cases h4 : v1 = 3
  · replace hR := lf_t h4 hR
    refine ev_lit h4 (ev_run [] 1 rfl trivial ?_)
    cases hR
    exact ev_exit ⟨_, _, rfl, ⟨rfl, rfl⟩, ⟨rfl, rfl⟩, Nat.le_refl _, Nat.le_refl _⟩
  replace hR := lf_f h4 hR
  by_cases h5 : v1 = 4
  · replace hR := lf_t h5 hR
    refine ev_lit h5 (ev_run [] 1 rfl trivial ?_)
    refine ev_run (cs := []) (pc' := 141) (L' := [some (.ref 0), some (.int v1), some (.int v2), some (.int (v2 - 48))]) (st' := [.int 45, .int v2, .ref 0]) (w' := W_X5 u) [] 3 (by with_unfolding_all rfl) trivial ?_
    refine ev_br rfl rfl (fun h6 => ?_) (fun h6 => ?_)
    · replace hR := lf_f h6 hR
      refine ev_run (cs := []) (pc' := 171) (L' := [some (.ref 0), some (.int v1), some (.int v2), some (.int (v2 - 48))]) (st' := []) (w' := W_X5 (m_X5_held (v2 - 48) u)) [] 3 (by with_unfolding_all rfl) trivial ?_
      cases hR
      exact ev_exit ⟨_, _, rfl, ⟨rfl, rfl⟩, ⟨rfl, rfl⟩, Nat.le_refl _, Nat.le_refl _⟩
    · replace hR := lf_t h6 hR
      refine ev_run (cs := []) (pc' := 171) (L' := [some (.ref 0), some (.int v1), some (.int v2), some (.int (v2 - 48))]) (st' := []) (w' := W_X5 (m_X5_held (-1) u)) [] 4 (by with_unfolding_all rfl) trivial ?_
      cases hR
      exact ev_exit ⟨_, _, rfl, ⟨rfl, rfl⟩, ⟨rfl, rfl⟩, Nat.le_refl _, Nat.le_refl _⟩
  replace hR := lf_f h5 hR
  by_cases h7 : v1 = 5
  · replace hR := lf_t h7 hR
    refine ev_lit h7 (ev_run [] 1 rfl trivial ?_)
    refine ev_run (cs := []) (pc' := 171) (L' := [some (.ref 0), some (.int v1), some (.int v2), some (.int (v2 - 48))]) (st' := []) (w' := W_X5 (m_X5_first (v2 - 48) u)) [] 4 (by with_unfolding_all rfl) trivial ?_
    cases hR
    exact ev_exit ⟨_, _, rfl, ⟨rfl, rfl⟩, ⟨rfl, rfl⟩, Nat.le_refl _, Nat.le_refl _⟩
  replace hR := lf_f h7 hR
  by_cases h8 : v1 = 6
  · replace hR := lf_t h8 hR
    refine ev_lit h8 (ev_run [] 1 rfl trivial ?_)
    cases hR
    exact ev_exit ⟨_, _, rfl, ⟨rfl, rfl⟩, ⟨rfl, rfl⟩, Nat.le_refl _, Nat.le_refl _⟩
  replace hR := lf_f h8 hR
  by_cases h9 : v1 = 7
  · replace hR := lf_t h9 hR
    refine ev_lit h9 (ev_run [] 1 rfl trivial ?_)
    refine ev_run (cs := []) (pc' := 171) (L' := [some (.ref 0), some (.int v1), some (.int v2), some (.int (v2 - 48))]) (st' := []) (w' := W_X5 (m_X5_second (v2 - 48) u)) [] 4 (by with_unfolding_all rfl) trivial ?_
    cases hR
    exact ev_exit ⟨_, _, rfl, ⟨rfl, rfl⟩, ⟨rfl, rfl⟩, Nat.le_refl _, Nat.le_refl _⟩
  replace hR := lf_f h9 hR
  by_cases h10 : v1 = 8
  · replace hR := lf_t h10 hR
    refine ev_lit h10 (ev_run [] 1 rfl trivial ?_)
    refine ev_run (cs := []) (pc' := 171) (L' := [some (.ref 0), some (.int v1), some (.int v2), some (.int (v2 - 48))]) (st' := []) (w' := W_X5 (m_X5_first (v2 - 48) u)) [] 4 (by with_unfolding_all rfl) trivial ?_
    cases hR
    exact ev_exit ⟨_, _, rfl, ⟨rfl, rfl⟩, ⟨rfl, rfl⟩, Nat.le_refl _, Nat.le_refl _⟩
  replace hR := lf_f h10 hR
  by_cases h11 : v1 = 9
  · replace hR := lf_t h11 hR
    refine ev_lit h11 (ev_run [] 1 rfl trivial ?_)
    cases hR
    exact ev_exit ⟨_, _, rfl, ⟨rfl, rfl⟩, ⟨rfl, rfl⟩, Nat.le_refl _, Nat.le_refl _⟩
  replace hR := lf_f h11 hR
  by_cases h12 : v1 = 10
  · replace hR := lf_t h12 hR
    refine ev_lit h12 (ev_run [] 1 rfl trivial ?_)
    exact ev_to2 (t_X5_note_b155 F u (v2 - 48) _ hR) ⟨rfl, rfl, trivial⟩ rfl rfl
  replace hR := lf_f h12 hR
  by_cases h13 : v1 = 11
  · replace hR := lf_t h13 hR
    refine ev_lit h13 (ev_run [] 1 rfl trivial ?_)
    exact ev_to2 (t_X5_note_b155 F u (v2 - 48) _ hR) ⟨rfl, rfl, trivial⟩ rfl rfl
  replace hR := lf_f h13 hR
  by_cases h14 : v1 = 12
  · replace hR := lf_t h14 hR
    refine ev_lit h14 (ev_run [] 1 rfl trivial ?_)
    exact ev_to2 (t_X5_note_b96 F u (v2 - 48) _ hR) ⟨rfl, rfl, trivial⟩ rfl rfl
  replace hR := lf_f h14 hR
  by_cases h15 : v1 = 13
  · replace hR := lf_t h15 hR
    refine ev_lit h15 (ev_run [] 1 rfl trivial ?_)
    exact ev_to2 (t_X5_note_b96 F u (v2 - 48) _ hR) ⟨rfl, rfl, trivial⟩ rfl rfl
  replace hR := lf_f h15 hR
  by_cases h16 : v1 = 14
  · replace hR := lf_t h16 hR
    refine ev_lit h16 (ev_run [] 1 rfl trivial ?_)
    exact ev_to2 (t_X5_note_b96 F u (v2 - 48) _ hR) ⟨rfl, rfl, trivial⟩ rfl rfl
  replace hR := lf_f h16 hR
  refine ev_tso 171 rfl ?_ rfl ?_
  · have k0 := lf_nt h1; have k1 := lf_nt h2; have k2 := lf_nt h3; have k3 := lf_nt h4; have k4 := lf_nt h5; have k5 := lf_nt h7; have k6 := lf_nt h8; have k7 := lf_nt h9; have k8 := lf_nt h10; have k9 := lf_nt h11; have k10 := lf_nt h12; have k11 := lf_nt h13; have k12 := lf_nt h14; have k13 := lf_nt h15; have k14 := lf_nt h16; rw [show (0 : Int32).toInt = 0 from rfl] at k0; rw [show (1 : Int32).toInt = 1 from rfl] at k1; rw [show (2 : Int32).toInt = 2 from rfl] at k2; rw [show (3 : Int32).toInt = 3 from rfl] at k3; rw [show (4 : Int32).toInt = 4 from rfl] at k4; rw [show (5 : Int32).toInt = 5 from rfl] at k5; rw [show (6 : Int32).toInt = 6 from rfl] at k6; rw [show (7 : Int32).toInt = 7 from rfl] at k7; rw [show (8 : Int32).toInt = 8 from rfl] at k8; rw [show (9 : Int32).toInt = 9 from rfl] at k9; rw [show (10 : Int32).toInt = 10 from rfl] at k10; rw [show (11 : Int32).toInt = 11 from rfl] at k11; rw [show (12 : Int32).toInt = 12 from rfl] at k12; rw [show (13 : Int32).toInt = 13 from rfl] at k13; rw [show (14 : Int32).toInt = 14 from rfl] at k14; omega
  cases hR
  exact ev_exit ⟨_, _, rfl, ⟨rfl, rfl⟩, ⟨rfl, rfl⟩, Nat.le_refl _, Nat.le_refl _⟩

def s_X5_does_b27 (F : Nat) (u : S_X5) (p0 : Int32) : Option (Bool × S_X5) := if p0 = 0 then (if p0 = 0 then some (false, u) else if p0 = 1 then some (true, u) else none) else ((s_X5_added F u (a_X5_first u)).bind fun y1 => (if p0 = 0 then some (false, y1.2) else if p0 = 1 then some (true, y1.2) else none))
set_option maxHeartbeats 4000000 in
set_option maxRecDepth 20000 in
theorem t_X5_does_b27 (F : Nat) (u : S_X5) (p0 : Int32) (x : (Bool × S_X5))  (hR : s_X5_does_b27 F u p0 = some x) : ev_V mm_X5_does none (ev_XR mm_X5_does (fun r w => r = some (.int (ev_b x.1)) ∧ w = W_X5 x.2)) 27 [some (.ref 0), none] [.int p0] (W_X5 u) 0 0 := by
  unfold s_X5_does_b27 at hR
  refine ev_run (cs := []) (pc' := 29) (L' := [some (.ref 0), some (.int p0)]) (st' := [.int p0]) (w' := W_X5 u) [] 2 (by with_unfolding_all rfl) trivial ?_
  refine ev_br rfl rfl (fun h1 => ?_) (fun h1 => ?_)
  · replace hR := lf_t h1 hR
    refine ev_run (cs := []) (pc' := 209) (L' := [some (.ref 0), some (.int p0)]) (st' := [.int p0]) (w' := W_X5 u) [] 1 (by with_unfolding_all rfl) trivial ?_
    by_cases h0 : p0 = 0
    · replace hR := lf_t h0 hR
      cases hR
      exact ev_lit h0 (ev_exit ⟨_, _, rfl, ⟨rfl, Or.inr ⟨rfl, rfl⟩⟩, ⟨rfl, rfl⟩, Nat.le_refl _, Nat.le_refl _⟩)
    replace hR := lf_f h0 hR
    by_cases h1 : p0 = 1
    · replace hR := lf_t h1 hR
      cases hR
      exact ev_lit h1 (ev_exit ⟨_, _, rfl, ⟨rfl, Or.inr ⟨rfl, rfl⟩⟩, ⟨rfl, rfl⟩, Nat.le_refl _, Nat.le_refl _⟩)
    exact absurd (lf_f h1 hR) (by intro h; cases h)
  · replace hR := lf_f h1 hR
    refine ev_run (cs := []) (pc' := 37) (L' := [some (.ref 0), some (.int p0)]) (st' := [.int (a_X5_first u), .ref 0]) (w' := W_X5 u) [] 3 (by with_unfolding_all rfl) trivial ?_
    obtain ⟨y1, h2, hR⟩ := lf_b hR
    refine ev_callV1 0 (t_X5_added F u (a_X5_first u) _ h2) cv_X5_added ml_X5_111 rfl rfl rfl (Nat.le_of_ble_eq_true rfl) (by with_unfolding_all rfl) (Nat.le_of_ble_eq_true rfl) ⟨Nat.le_of_ble_eq_true rfl, Nat.le_of_ble_eq_true rfl⟩ ⟨Nat.le_refl _, Nat.le_refl _⟩ ?_ ?_
    · rintro r w ⟨rfl, rfl⟩; rfl
    rintro r w ⟨rfl, rfl⟩
    refine ev_nx (pc' := 40) (st' := [.int y1.1]) (w' := W_X5 y1.2) rfl rfl (by with_unfolding_all rfl) rfl rfl ?_
    refine ev_run (cs := []) (pc' := 209) (L' := [some (.ref 0), some (.int p0)]) (st' := [.int p0]) (w' := W_X5 y1.2) [] 3 (by with_unfolding_all rfl) trivial ?_
    by_cases h0 : p0 = 0
    · replace hR := lf_t h0 hR
      cases hR
      exact ev_lit h0 (ev_exit ⟨_, _, rfl, ⟨rfl, Or.inr ⟨rfl, rfl⟩⟩, ⟨rfl, rfl⟩, Nat.le_refl _, Nat.le_refl _⟩)
    replace hR := lf_f h0 hR
    by_cases h1 : p0 = 1
    · replace hR := lf_t h1 hR
      cases hR
      exact ev_lit h1 (ev_exit ⟨_, _, rfl, ⟨rfl, Or.inr ⟨rfl, rfl⟩⟩, ⟨rfl, rfl⟩, Nat.le_refl _, Nat.le_refl _⟩)
    exact absurd (lf_f h1 hR) (by intro h; cases h)

def s_X5_does_b73 (F : Nat) (u : S_X5) (p0 : Int32) : Option (Bool × S_X5) := if p0 = 0 then (if p0 = 0 then some (false, u) else if p0 = 1 then some (true, u) else none) else ((s_X5_changed F u (13 + (a_X5_first u)) (a_X5_held u)).bind fun y1 => (if p0 = 0 then some (false, y1.2) else if p0 = 1 then some (true, y1.2) else none))
set_option maxHeartbeats 4000000 in
set_option maxRecDepth 20000 in
theorem t_X5_does_b73 (F : Nat) (u : S_X5) (p0 : Int32) (x : (Bool × S_X5))  (hR : s_X5_does_b73 F u p0 = some x) : ev_V mm_X5_does none (ev_XR mm_X5_does (fun r w => r = some (.int (ev_b x.1)) ∧ w = W_X5 x.2)) 73 [some (.ref 0), none] [.int p0] (W_X5 u) 0 0 := by
  unfold s_X5_does_b73 at hR
  refine ev_run (cs := []) (pc' := 75) (L' := [some (.ref 0), some (.int p0)]) (st' := [.int p0]) (w' := W_X5 u) [] 2 (by with_unfolding_all rfl) trivial ?_
  refine ev_br rfl rfl (fun h1 => ?_) (fun h1 => ?_)
  · replace hR := lf_t h1 hR
    refine ev_run (cs := []) (pc' := 209) (L' := [some (.ref 0), some (.int p0)]) (st' := [.int p0]) (w' := W_X5 u) [] 1 (by with_unfolding_all rfl) trivial ?_
    by_cases h0 : p0 = 0
    · replace hR := lf_t h0 hR
      cases hR
      exact ev_lit h0 (ev_exit ⟨_, _, rfl, ⟨rfl, Or.inr ⟨rfl, rfl⟩⟩, ⟨rfl, rfl⟩, Nat.le_refl _, Nat.le_refl _⟩)
    replace hR := lf_f h0 hR
    by_cases h1 : p0 = 1
    · replace hR := lf_t h1 hR
      cases hR
      exact ev_lit h1 (ev_exit ⟨_, _, rfl, ⟨rfl, Or.inr ⟨rfl, rfl⟩⟩, ⟨rfl, rfl⟩, Nat.le_refl _, Nat.le_refl _⟩)
    exact absurd (lf_f h1 hR) (by intro h; cases h)
  · replace hR := lf_f h1 hR
    refine ev_run (cs := []) (pc' := 90) (L' := [some (.ref 0), some (.int p0)]) (st' := [.int (a_X5_held u), .int (13 + (a_X5_first u)), .ref 0]) (w' := W_X5 u) [] 7 (by with_unfolding_all rfl) trivial ?_
    obtain ⟨y1, h2, hR⟩ := lf_b hR
    refine ev_callV1 0 (t_X5_changed F u (13 + (a_X5_first u)) (a_X5_held u) _ h2) cv_X5_changed ml_X5_129 rfl rfl rfl (Nat.le_of_ble_eq_true rfl) (by with_unfolding_all rfl) (Nat.le_of_ble_eq_true rfl) ⟨Nat.le_of_ble_eq_true rfl, Nat.le_of_ble_eq_true rfl⟩ ⟨Nat.le_refl _, Nat.le_refl _⟩ ?_ ?_
    · rintro r w ⟨rfl, rfl⟩; rfl
    rintro r w ⟨rfl, rfl⟩
    refine ev_nx (pc' := 93) (st' := [.int y1.1]) (w' := W_X5 y1.2) rfl rfl (by with_unfolding_all rfl) rfl rfl ?_
    refine ev_run (cs := []) (pc' := 209) (L' := [some (.ref 0), some (.int p0)]) (st' := [.int p0]) (w' := W_X5 y1.2) [] 3 (by with_unfolding_all rfl) trivial ?_
    by_cases h0 : p0 = 0
    · replace hR := lf_t h0 hR
      cases hR
      exact ev_lit h0 (ev_exit ⟨_, _, rfl, ⟨rfl, Or.inr ⟨rfl, rfl⟩⟩, ⟨rfl, rfl⟩, Nat.le_refl _, Nat.le_refl _⟩)
    replace hR := lf_f h0 hR
    by_cases h1 : p0 = 1
    · replace hR := lf_t h1 hR
      cases hR
      exact ev_lit h1 (ev_exit ⟨_, _, rfl, ⟨rfl, Or.inr ⟨rfl, rfl⟩⟩, ⟨rfl, rfl⟩, Nat.le_refl _, Nat.le_refl _⟩)
    exact absurd (lf_f h1 hR) (by intro h; cases h)

def s_X5_does_b130 (F : Nat) (u : S_X5) (p0 : Int32) : Option (Bool × S_X5) := if p0 = 0 then (if p0 = 0 then some (false, u) else if p0 = 1 then some (true, u) else none) else ((s_X5_changed F u ((257 + (4 * (a_X5_first u))) + (a_X5_second u)) (a_X5_held u)).bind fun y1 => (if p0 = 0 then some (false, y1.2) else if p0 = 1 then some (true, y1.2) else none))
set_option maxHeartbeats 4000000 in
set_option maxRecDepth 20000 in
theorem t_X5_does_b130 (F : Nat) (u : S_X5) (p0 : Int32) (x : (Bool × S_X5))  (hR : s_X5_does_b130 F u p0 = some x) : ev_V mm_X5_does none (ev_XR mm_X5_does (fun r w => r = some (.int (ev_b x.1)) ∧ w = W_X5 x.2)) 130 [some (.ref 0), none] [.int p0] (W_X5 u) 0 0 := by
  unfold s_X5_does_b130 at hR
  refine ev_run (cs := []) (pc' := 132) (L' := [some (.ref 0), some (.int p0)]) (st' := [.int p0]) (w' := W_X5 u) [] 2 (by with_unfolding_all rfl) trivial ?_
  refine ev_br rfl rfl (fun h1 => ?_) (fun h1 => ?_)
  · replace hR := lf_t h1 hR
    refine ev_run (cs := []) (pc' := 209) (L' := [some (.ref 0), some (.int p0)]) (st' := [.int p0]) (w' := W_X5 u) [] 1 (by with_unfolding_all rfl) trivial ?_
    by_cases h0 : p0 = 0
    · replace hR := lf_t h0 hR
      cases hR
      exact ev_lit h0 (ev_exit ⟨_, _, rfl, ⟨rfl, Or.inr ⟨rfl, rfl⟩⟩, ⟨rfl, rfl⟩, Nat.le_refl _, Nat.le_refl _⟩)
    replace hR := lf_f h0 hR
    by_cases h1 : p0 = 1
    · replace hR := lf_t h1 hR
      cases hR
      exact ev_lit h1 (ev_exit ⟨_, _, rfl, ⟨rfl, Or.inr ⟨rfl, rfl⟩⟩, ⟨rfl, rfl⟩, Nat.le_refl _, Nat.le_refl _⟩)
    exact absurd (lf_f h1 hR) (by intro h; cases h)
  · replace hR := lf_f h1 hR
    refine ev_run (cs := []) (pc' := 155) (L' := [some (.ref 0), some (.int p0)]) (st' := [.int (a_X5_held u), .int ((257 + (4 * (a_X5_first u))) + (a_X5_second u)), .ref 0]) (w' := W_X5 u) [] 12 (by with_unfolding_all rfl) trivial ?_
    obtain ⟨y1, h2, hR⟩ := lf_b hR
    refine ev_callV1 0 (t_X5_changed F u ((257 + (4 * (a_X5_first u))) + (a_X5_second u)) (a_X5_held u) _ h2) cv_X5_changed ml_X5_129 rfl rfl rfl (Nat.le_of_ble_eq_true rfl) (by with_unfolding_all rfl) (Nat.le_of_ble_eq_true rfl) ⟨Nat.le_of_ble_eq_true rfl, Nat.le_of_ble_eq_true rfl⟩ ⟨Nat.le_refl _, Nat.le_refl _⟩ ?_ ?_
    · rintro r w ⟨rfl, rfl⟩; rfl
    rintro r w ⟨rfl, rfl⟩
    refine ev_nx (pc' := 158) (st' := [.int y1.1]) (w' := W_X5 y1.2) rfl rfl (by with_unfolding_all rfl) rfl rfl ?_
    refine ev_run (cs := []) (pc' := 209) (L' := [some (.ref 0), some (.int p0)]) (st' := [.int p0]) (w' := W_X5 y1.2) [] 3 (by with_unfolding_all rfl) trivial ?_
    by_cases h0 : p0 = 0
    · replace hR := lf_t h0 hR
      cases hR
      exact ev_lit h0 (ev_exit ⟨_, _, rfl, ⟨rfl, Or.inr ⟨rfl, rfl⟩⟩, ⟨rfl, rfl⟩, Nat.le_refl _, Nat.le_refl _⟩)
    replace hR := lf_f h0 hR
    by_cases h1 : p0 = 1
    · replace hR := lf_t h1 hR
      cases hR
      exact ev_lit h1 (ev_exit ⟨_, _, rfl, ⟨rfl, Or.inr ⟨rfl, rfl⟩⟩, ⟨rfl, rfl⟩, Nat.le_refl _, Nat.le_refl _⟩)
    exact absurd (lf_f h1 hR) (by intro h; cases h)

def s_X5_does_b187 (F : Nat) (u : S_X5) (p0 : Int32) : Option (Bool × S_X5) := if p0 = 0 then (if p0 = 0 then some (false, u) else if p0 = 1 then some (true, u) else none) else ((s_X5_passed F u (a_X5_first u)).bind fun y1 => (if p0 = 0 then some (false, y1.2) else if p0 = 1 then some (true, y1.2) else none))
set_option maxHeartbeats 4000000 in
set_option maxRecDepth 20000 in
theorem t_X5_does_b187 (F : Nat) (u : S_X5) (p0 : Int32) (x : (Bool × S_X5))  (hR : s_X5_does_b187 F u p0 = some x) : ev_V mm_X5_does none (ev_XR mm_X5_does (fun r w => r = some (.int (ev_b x.1)) ∧ w = W_X5 x.2)) 187 [some (.ref 0), none] [.int p0] (W_X5 u) 0 0 := by
  unfold s_X5_does_b187 at hR
  refine ev_run (cs := []) (pc' := 189) (L' := [some (.ref 0), some (.int p0)]) (st' := [.int p0]) (w' := W_X5 u) [] 2 (by with_unfolding_all rfl) trivial ?_
  refine ev_br rfl rfl (fun h1 => ?_) (fun h1 => ?_)
  · replace hR := lf_t h1 hR
    refine ev_run (cs := []) (pc' := 209) (L' := [some (.ref 0), some (.int p0)]) (st' := [.int p0]) (w' := W_X5 u) [] 1 (by with_unfolding_all rfl) trivial ?_
    by_cases h0 : p0 = 0
    · replace hR := lf_t h0 hR
      cases hR
      exact ev_lit h0 (ev_exit ⟨_, _, rfl, ⟨rfl, Or.inr ⟨rfl, rfl⟩⟩, ⟨rfl, rfl⟩, Nat.le_refl _, Nat.le_refl _⟩)
    replace hR := lf_f h0 hR
    by_cases h1 : p0 = 1
    · replace hR := lf_t h1 hR
      cases hR
      exact ev_lit h1 (ev_exit ⟨_, _, rfl, ⟨rfl, Or.inr ⟨rfl, rfl⟩⟩, ⟨rfl, rfl⟩, Nat.le_refl _, Nat.le_refl _⟩)
    exact absurd (lf_f h1 hR) (by intro h; cases h)
  · replace hR := lf_f h1 hR
    refine ev_run (cs := []) (pc' := 197) (L' := [some (.ref 0), some (.int p0)]) (st' := [.int (a_X5_first u), .ref 0]) (w' := W_X5 u) [] 3 (by with_unfolding_all rfl) trivial ?_
    obtain ⟨y1, h2, hR⟩ := lf_b hR
    refine ev_callV1 0 (t_X5_passed F u (a_X5_first u) _ h2) cv_X5_passed ml_X5_168 rfl rfl rfl (Nat.le_of_ble_eq_true rfl) (by with_unfolding_all rfl) (Nat.le_of_ble_eq_true rfl) ⟨Nat.le_of_ble_eq_true rfl, Nat.le_of_ble_eq_true rfl⟩ ⟨Nat.le_refl _, Nat.le_refl _⟩ ?_ ?_
    · rintro r w ⟨rfl, rfl⟩; rfl
    rintro r w ⟨rfl, rfl⟩
    refine ev_nx (pc' := 200) (st' := [.int y1.1]) (w' := W_X5 y1.2) rfl rfl (by with_unfolding_all rfl) rfl rfl ?_
    refine ev_run (cs := []) (pc' := 209) (L' := [some (.ref 0), some (.int p0)]) (st' := [.int p0]) (w' := W_X5 y1.2) [] 3 (by with_unfolding_all rfl) trivial ?_
    by_cases h0 : p0 = 0
    · replace hR := lf_t h0 hR
      cases hR
      exact ev_lit h0 (ev_exit ⟨_, _, rfl, ⟨rfl, Or.inr ⟨rfl, rfl⟩⟩, ⟨rfl, rfl⟩, Nat.le_refl _, Nat.le_refl _⟩)
    replace hR := lf_f h0 hR
    by_cases h1 : p0 = 1
    · replace hR := lf_t h1 hR
      cases hR
      exact ev_lit h1 (ev_exit ⟨_, _, rfl, ⟨rfl, Or.inr ⟨rfl, rfl⟩⟩, ⟨rfl, rfl⟩, Nat.le_refl _, Nat.le_refl _⟩)
    exact absurd (lf_f h1 hR) (by intro h; cases h)

def s_X5_does (F : Nat) (u : S_X5) : Option (Bool × S_X5) := if (a_X5_kind u) = 110 then ((s_X5_whyNotAdded F u (a_X5_first u)).bind fun y5 => (if y5 = 0 then (s_X5_does_b27 F u 1) else (s_X5_does_b27 F u 0))) else (if (a_X5_kind u) = 104 then ((s_X5_whyNotTaken F u (a_X5_first u) (a_X5_held u)).bind fun y4 => (if y4 = 0 then (s_X5_does_b73 F u 1) else (s_X5_does_b73 F u 0))) else (if (a_X5_kind u) = 115 then ((s_X5_whyNotPut F u (a_X5_first u) (a_X5_second u) (a_X5_held u)).bind fun y3 => (if y3 = 0 then (s_X5_does_b130 F u 1) else (s_X5_does_b130 F u 0))) else (if (a_X5_kind u) = 116 then ((s_X5_whyNotPassed F u (a_X5_first u)).bind fun y2 => (if y2 = 0 then (s_X5_does_b187 F u 1) else (s_X5_does_b187 F u 0))) else ((s_X5_holdTrial F u).bind fun y1 => (some (true, y1))))))
set_option maxHeartbeats 4000000 in
set_option maxRecDepth 20000 in
theorem t_X5_does (F : Nat) (u : S_X5) (x : (Bool × S_X5)) (hR : s_X5_does F u = some x) : ev_A yX5_does mm_X5_does none [.ref 0] (W_X5 u) (fun r w => r = some (.int (ev_b x.1)) ∧ w = W_X5 x.2) := by
  unfold s_X5_does at hR
  refine ev_start ok_X5_does (by decide +kernel) rfl rfl (Nat.le_of_ble_eq_true rfl) ?_
  refine ev_run (cs := []) (pc' := 8) (L' := [some (.ref 0), some (.int 1)]) (st' := [.int 110, .int (a_X5_kind u)]) (w' := W_X5 u) [] 5 (by with_unfolding_all rfl) trivial ?_
  refine ev_br rfl rfl (fun h1 => ?_) (fun h1 => ?_)
  · replace hR := lf_f h1 hR
    refine ev_run (cs := []) (pc' := 50) (L' := [some (.ref 0), some (.int 1)]) (st' := [.int 104, .int (a_X5_kind u)]) (w' := W_X5 u) [] 3 (by with_unfolding_all rfl) trivial ?_
    refine ev_br rfl rfl (fun h2 => ?_) (fun h2 => ?_)
    · replace hR := lf_f h2 hR
      refine ev_run (cs := []) (pc' := 103) (L' := [some (.ref 0), some (.int 1)]) (st' := [.int 115, .int (a_X5_kind u)]) (w' := W_X5 u) [] 3 (by with_unfolding_all rfl) trivial ?_
      refine ev_br rfl rfl (fun h3 => ?_) (fun h3 => ?_)
      · replace hR := lf_f h3 hR
        refine ev_run (cs := []) (pc' := 168) (L' := [some (.ref 0), some (.int 1)]) (st' := [.int 116, .int (a_X5_kind u)]) (w' := W_X5 u) [] 3 (by with_unfolding_all rfl) trivial ?_
        refine ev_br rfl rfl (fun h4 => ?_) (fun h4 => ?_)
        · replace hR := lf_f h4 hR
          refine ev_run (cs := []) (pc' := 205) (L' := [some (.ref 0), some (.int 1)]) (st' := [.ref 0]) (w' := W_X5 u) [] 1 (by with_unfolding_all rfl) trivial ?_
          obtain ⟨y1, h5, hR⟩ := lf_b hR
          refine ev_callV1 0 (t_X5_holdTrial F u _ h5) cv_X5_holdTrial ml_X5_159 rfl rfl rfl (Nat.le_of_ble_eq_true rfl) (by with_unfolding_all rfl) (Nat.le_of_ble_eq_true rfl) ⟨Nat.le_of_ble_eq_true rfl, Nat.le_of_ble_eq_true rfl⟩ ⟨Nat.le_refl _, Nat.le_refl _⟩ ?_ ?_
          · rintro r w ⟨rfl, rfl⟩; rfl
          rintro r w ⟨rfl, rfl⟩
          refine ev_nx (pc' := 208) (st' := []) (w' := W_X5 y1) rfl rfl (by with_unfolding_all rfl) rfl rfl ?_
          refine ev_run (cs := []) (pc' := 209) (L' := [some (.ref 0), some (.int 1)]) (st' := [.int 1]) (w' := W_X5 y1) [] 1 (by with_unfolding_all rfl) trivial ?_
          cases hR
          exact ev_exit ⟨_, _, rfl, ⟨rfl, Or.inr ⟨rfl, rfl⟩⟩, ⟨rfl, rfl⟩, Nat.le_refl _, Nat.le_refl _⟩
        · replace hR := lf_t h4 hR
          refine ev_run (cs := []) (pc' := 176) (L' := [some (.ref 0), some (.int 1)]) (st' := [.int (a_X5_first u), .ref 0]) (w' := W_X5 u) [] 3 (by with_unfolding_all rfl) trivial ?_
          obtain ⟨y2, h6, hR⟩ := lf_b hR
          refine ev_callV1 0 (t_X5_whyNotPassed F u (a_X5_first u) _ h6) cv_X5_whyNotPassed ml_X5_165 rfl rfl rfl (Nat.le_of_ble_eq_true rfl) (by with_unfolding_all rfl) (Nat.le_of_ble_eq_true rfl) ⟨Nat.le_of_ble_eq_true rfl, Nat.le_of_ble_eq_true rfl⟩ ⟨Nat.le_refl _, Nat.le_refl _⟩ ?_ ?_
          · rintro r w ⟨rfl, rfl⟩; rfl
          rintro r w ⟨rfl, rfl⟩
          refine ev_nx (pc' := 179) (st' := [.int y2]) (w' := W_X5 u) rfl rfl (by with_unfolding_all rfl) rfl rfl ?_
          refine ev_br rfl rfl (fun h7 => ?_) (fun h7 => ?_)
          · replace hR := lf_f h7 hR
            refine ev_run (cs := []) (pc' := 187) (L' := [some (.ref 0), some (.int 1)]) (st' := [.int 0]) (w' := W_X5 u) [] 1 (by with_unfolding_all rfl) trivial ?_
            exact ev_to2 (t_X5_does_b187 F u 0 _ hR) ⟨rfl, trivial⟩ rfl rfl
          · replace hR := lf_t h7 hR
            refine ev_run (cs := []) (pc' := 187) (L' := [some (.ref 0), some (.int 1)]) (st' := [.int 1]) (w' := W_X5 u) [] 2 (by with_unfolding_all rfl) trivial ?_
            exact ev_to2 (t_X5_does_b187 F u 1 _ hR) ⟨rfl, trivial⟩ rfl rfl
      · replace hR := lf_t h3 hR
        refine ev_run (cs := []) (pc' := 119) (L' := [some (.ref 0), some (.int 1)]) (st' := [.int (a_X5_held u), .int (a_X5_second u), .int (a_X5_first u), .ref 0]) (w' := W_X5 u) [] 7 (by with_unfolding_all rfl) trivial ?_
        obtain ⟨y3, h8, hR⟩ := lf_b hR
        refine ev_callV1 0 (t_X5_whyNotPut F u (a_X5_first u) (a_X5_second u) (a_X5_held u) _ h8) cv_X5_whyNotPut ml_X5_132 rfl rfl rfl (Nat.le_of_ble_eq_true rfl) (by with_unfolding_all rfl) (Nat.le_of_ble_eq_true rfl) ⟨Nat.le_of_ble_eq_true rfl, Nat.le_of_ble_eq_true rfl⟩ ⟨Nat.le_refl _, Nat.le_refl _⟩ ?_ ?_
        · rintro r w ⟨rfl, rfl⟩; rfl
        rintro r w ⟨rfl, rfl⟩
        refine ev_nx (pc' := 122) (st' := [.int y3]) (w' := W_X5 u) rfl rfl (by with_unfolding_all rfl) rfl rfl ?_
        refine ev_br rfl rfl (fun h9 => ?_) (fun h9 => ?_)
        · replace hR := lf_f h9 hR
          refine ev_run (cs := []) (pc' := 130) (L' := [some (.ref 0), some (.int 1)]) (st' := [.int 0]) (w' := W_X5 u) [] 1 (by with_unfolding_all rfl) trivial ?_
          exact ev_to2 (t_X5_does_b130 F u 0 _ hR) ⟨rfl, trivial⟩ rfl rfl
        · replace hR := lf_t h9 hR
          refine ev_run (cs := []) (pc' := 130) (L' := [some (.ref 0), some (.int 1)]) (st' := [.int 1]) (w' := W_X5 u) [] 2 (by with_unfolding_all rfl) trivial ?_
          exact ev_to2 (t_X5_does_b130 F u 1 _ hR) ⟨rfl, trivial⟩ rfl rfl
    · replace hR := lf_t h2 hR
      refine ev_run (cs := []) (pc' := 62) (L' := [some (.ref 0), some (.int 1)]) (st' := [.int (a_X5_held u), .int (a_X5_first u), .ref 0]) (w' := W_X5 u) [] 5 (by with_unfolding_all rfl) trivial ?_
      obtain ⟨y4, h10, hR⟩ := lf_b hR
      refine ev_callV1 0 (t_X5_whyNotTaken F u (a_X5_first u) (a_X5_held u) _ h10) cv_X5_whyNotTaken ml_X5_126 rfl rfl rfl (Nat.le_of_ble_eq_true rfl) (by with_unfolding_all rfl) (Nat.le_of_ble_eq_true rfl) ⟨Nat.le_of_ble_eq_true rfl, Nat.le_of_ble_eq_true rfl⟩ ⟨Nat.le_refl _, Nat.le_refl _⟩ ?_ ?_
      · rintro r w ⟨rfl, rfl⟩; rfl
      rintro r w ⟨rfl, rfl⟩
      refine ev_nx (pc' := 65) (st' := [.int y4]) (w' := W_X5 u) rfl rfl (by with_unfolding_all rfl) rfl rfl ?_
      refine ev_br rfl rfl (fun h11 => ?_) (fun h11 => ?_)
      · replace hR := lf_f h11 hR
        refine ev_run (cs := []) (pc' := 73) (L' := [some (.ref 0), some (.int 1)]) (st' := [.int 0]) (w' := W_X5 u) [] 1 (by with_unfolding_all rfl) trivial ?_
        exact ev_to2 (t_X5_does_b73 F u 0 _ hR) ⟨rfl, trivial⟩ rfl rfl
      · replace hR := lf_t h11 hR
        refine ev_run (cs := []) (pc' := 73) (L' := [some (.ref 0), some (.int 1)]) (st' := [.int 1]) (w' := W_X5 u) [] 2 (by with_unfolding_all rfl) trivial ?_
        exact ev_to2 (t_X5_does_b73 F u 1 _ hR) ⟨rfl, trivial⟩ rfl rfl
  · replace hR := lf_t h1 hR
    refine ev_run (cs := []) (pc' := 16) (L' := [some (.ref 0), some (.int 1)]) (st' := [.int (a_X5_first u), .ref 0]) (w' := W_X5 u) [] 3 (by with_unfolding_all rfl) trivial ?_
    obtain ⟨y5, h12, hR⟩ := lf_b hR
    refine ev_callV1 0 (t_X5_whyNotAdded F u (a_X5_first u) _ h12) cv_X5_whyNotAdded ml_X5_105 rfl rfl rfl (Nat.le_of_ble_eq_true rfl) (by with_unfolding_all rfl) (Nat.le_of_ble_eq_true rfl) ⟨Nat.le_of_ble_eq_true rfl, Nat.le_of_ble_eq_true rfl⟩ ⟨Nat.le_refl _, Nat.le_refl _⟩ ?_ ?_
    · rintro r w ⟨rfl, rfl⟩; rfl
    rintro r w ⟨rfl, rfl⟩
    refine ev_nx (pc' := 19) (st' := [.int y5]) (w' := W_X5 u) rfl rfl (by with_unfolding_all rfl) rfl rfl ?_
    refine ev_br rfl rfl (fun h13 => ?_) (fun h13 => ?_)
    · replace hR := lf_f h13 hR
      refine ev_run (cs := []) (pc' := 27) (L' := [some (.ref 0), some (.int 1)]) (st' := [.int 0]) (w' := W_X5 u) [] 1 (by with_unfolding_all rfl) trivial ?_
      exact ev_to2 (t_X5_does_b27 F u 0 _ hR) ⟨rfl, trivial⟩ rfl rfl
    · replace hR := lf_t h13 hR
      refine ev_run (cs := []) (pc' := 27) (L' := [some (.ref 0), some (.int 1)]) (st' := [.int 1]) (w' := W_X5 u) [] 2 (by with_unfolding_all rfl) trivial ?_
      exact ev_to2 (t_X5_does_b27 F u 1 _ hR) ⟨rfl, trivial⟩ rfl rfl

def s_X5_run_b77 (F : Nat) (k38 : S_X5 → Int32 → Int32 → Int32 → Int32 → Option (Int32 × S_X5)) (u : S_X5) (v1 : Int32) (v2 : Int32) (v3 : Int32) (v4 : Int32) (p0 : Int32) : Option (Int32 × S_X5) := if p0 = 0 then (if lf_ix v4 60 then ((s_X5_note F u v2 ((a_X5_text u) v4.toNatClampNeg)).bind fun y1 => (if lf_ix v4 60 then ((s_X5_next F v2 ((a_X5_text y1) v4.toNatClampNeg)).bind fun y2 => (k38 y1 v1 y2 v3 (v4 + 1))) else none)) else none) else ((s_X5_does F u).bind fun y3 => (if y3.1 then (k38 y3.2 (v1 + 1) 0 (ev_b y3.1) (v4 + 1)) else (k38 y3.2 (v1 + 0) 0 (ev_b y3.1) (v4 + 1))))
set_option maxHeartbeats 4000000 in
set_option maxRecDepth 20000 in
theorem t_X5_run_b77 (F : Nat) (k38 : S_X5 → Int32 → Int32 → Int32 → Int32 → Option (Int32 × S_X5)) (u : S_X5) (v1 : Int32) (v2 : Int32) (v3 : Int32) (v4 : Int32) (p0 : Int32) (x : (Int32 × S_X5)) (hk38 : ∀ (u : S_X5) (v1 : Int32) (v2 : Int32) (v3 : Int32) (v4 : Int32), k38 u v1 v2 v3 v4 = some x → ev_V mm_X5_run none (ev_XR mm_X5_run (fun r w => r = some (.int x.1) ∧ w = W_X5 x.2)) 38 [some (.ref 0), some (.int v1), some (.int v2), some (.int v3), some (.int v4), none] [] (W_X5 u) 0 0) (hR : s_X5_run_b77 F k38 u v1 v2 v3 v4 p0 = some x) : ev_V mm_X5_run none (ev_XR mm_X5_run (fun r w => r = some (.int x.1) ∧ w = W_X5 x.2)) 77 [some (.ref 0), some (.int v1), some (.int v2), some (.int v3), some (.int v4), none] [.int p0] (W_X5 u) 0 0 := by
  unfold s_X5_run_b77 at hR
  refine ev_run (cs := []) (pc' := 81) (L' := [some (.ref 0), some (.int v1), some (.int v2), some (.int v3), some (.int v4), some (.int p0)]) (st' := [.int p0]) (w' := W_X5 u) [] 2 (by with_unfolding_all rfl) trivial ?_
  refine ev_br rfl rfl (fun h1 => ?_) (fun h1 => ?_)
  · replace hR := lf_t h1 hR
    obtain ⟨h2, hR⟩ := lf_g hR
    refine ev_run (cs := [lf_ix v4 60]) (pc' := 115) (L' := [some (.ref 0), some (.int v1), some (.int v2), some (.int v3), some (.int v4), some (.int p0)]) (st' := [.int ((a_X5_text u) v4.toNatClampNeg), .int v2, .ref 0]) (w' := W_X5 u) [] 6 (by with_unfolding_all rfl) (h2) ?_
    obtain ⟨y1, h3, hR⟩ := lf_b hR
    refine ev_callV1 0 (t_X5_note F u v2 ((a_X5_text u) v4.toNatClampNeg) _ h3) cv_X5_note ml_X5_209 rfl rfl rfl (Nat.le_of_ble_eq_true rfl) (by with_unfolding_all rfl) (Nat.le_of_ble_eq_true rfl) ⟨Nat.le_of_ble_eq_true rfl, Nat.le_of_ble_eq_true rfl⟩ ⟨Nat.le_refl _, Nat.le_refl _⟩ ?_ ?_
    · rintro r w ⟨rfl, rfl⟩; rfl
    rintro r w ⟨rfl, rfl⟩
    refine ev_nx (pc' := 118) (st' := []) (w' := W_X5 y1) rfl rfl (by with_unfolding_all rfl) rfl rfl ?_
    obtain ⟨h4, hR⟩ := lf_g hR
    refine ev_run (cs := [lf_ix v4 60]) (pc' := 126) (L' := [some (.ref 0), some (.int v1), some (.int v2), some (.int v3), some (.int v4), some (.int p0)]) (st' := [.int ((a_X5_text y1) v4.toNatClampNeg), .int v2]) (w' := W_X5 y1) [] 5 (by with_unfolding_all rfl) (h4) ?_
    obtain ⟨y2, h5, hR⟩ := lf_b hR
    refine ev_callS1 0 (t_X5_next F v2 ((a_X5_text y1) v4.toNatClampNeg) _ h5) cs_X5_next ml_X5_184 rfl rfl rfl (Nat.le_of_ble_eq_true rfl) (by with_unfolding_all rfl) (Nat.le_of_ble_eq_true rfl) ⟨Nat.le_of_ble_eq_true rfl, Nat.le_of_ble_eq_true rfl⟩ ⟨Nat.le_refl _, Nat.le_refl _⟩ ?_ ?_
    · rintro r w ⟨rfl, rfl⟩; rfl
    rintro r w ⟨rfl, rfl⟩
    refine ev_nx (pc' := 129) (st' := [.int y2]) (w' := W_X5 y1) rfl rfl (by with_unfolding_all rfl) rfl rfl ?_
    refine ev_run (cs := []) (pc' := 38) (L' := [some (.ref 0), some (.int v1), some (.int y2), some (.int v3), some (.int (v4 + 1)), some (.int p0)]) (st' := []) (w' := W_X5 y1) [] 3 (by with_unfolding_all rfl) trivial ?_
    exact ev_to2 (hk38 _ _ _ _ _ hR) ⟨rfl, rfl, rfl, rfl, rfl, trivial⟩ rfl rfl
  · replace hR := lf_f h1 hR
    refine ev_run (cs := []) (pc' := 85) (L' := [some (.ref 0), some (.int v1), some (.int v2), some (.int v3), some (.int v4), some (.int p0)]) (st' := [.ref 0]) (w' := W_X5 u) [] 1 (by with_unfolding_all rfl) trivial ?_
    obtain ⟨y3, h6, hR⟩ := lf_b hR
    refine ev_callV1 0 (t_X5_does F u _ h6) cv_X5_does ml_X5_206 rfl rfl rfl (Nat.le_of_ble_eq_true rfl) (by with_unfolding_all rfl) (Nat.le_of_ble_eq_true rfl) ⟨Nat.le_of_ble_eq_true rfl, Nat.le_of_ble_eq_true rfl⟩ ⟨Nat.le_refl _, Nat.le_refl _⟩ ?_ ?_
    · rintro r w ⟨rfl, rfl⟩; rfl
    rintro r w ⟨rfl, rfl⟩
    refine ev_nx (pc' := 88) (st' := [.int (ev_b y3.1)]) (w' := W_X5 y3.2) rfl rfl (by with_unfolding_all rfl) rfl rfl ?_
    refine ev_run (cs := []) (pc' := 91) (L' := [some (.ref 0), some (.int v1), some (.int v2), some (.int (ev_b y3.1)), some (.int v4), some (.int p0)]) (st' := [.int (ev_b y3.1), .int v1]) (w' := W_X5 y3.2) [] 3 (by with_unfolding_all rfl) trivial ?_
    refine ev_br rfl rfl (fun h7 => ?_) (fun h7 => ?_)
    · replace hR := lf_z0 h7 hR
      refine ev_run (cs := []) (pc' := 38) (L' := [some (.ref 0), some (.int (v1 + 0)), some (.int 0), some (.int (ev_b y3.1)), some (.int (v4 + 1)), some (.int p0)]) (st' := []) (w' := W_X5 y3.2) [] 8 (by with_unfolding_all rfl) trivial ?_
      exact ev_to2 (hk38 _ _ _ _ _ hR) ⟨rfl, rfl, rfl, rfl, rfl, trivial⟩ rfl rfl
    · replace hR := lf_z1 h7 hR
      refine ev_run (cs := []) (pc' := 38) (L' := [some (.ref 0), some (.int (v1 + 1)), some (.int 0), some (.int (ev_b y3.1)), some (.int (v4 + 1)), some (.int p0)]) (st' := []) (w' := W_X5 y3.2) [] 9 (by with_unfolding_all rfl) trivial ?_
      exact ev_to2 (hk38 _ _ _ _ _ hR) ⟨rfl, rfl, rfl, rfl, rfl, trivial⟩ rfl rfl

def s_X5_run_l38 (F : Nat) : Nat → S_X5 → Int32 → Int32 → Int32 → Int32 → Option (Int32 × S_X5)
  | 0 => fun _ _ _ _ _ => none
  | n + 1 => fun u v1 v2 v3 v4 => if (a_X5_textLength u) < v4 then (some (v1, m_X5_textLength 0 u)) else (if v3 = 0 then (some (v1, m_X5_textLength 0 u)) else (if v4 = (a_X5_textLength u) then (s_X5_run_b77 F (s_X5_run_l38 F n) u v1 v2 v3 v4 1) else (if lf_ix v4 60 then (if ((a_X5_text u) v4.toNatClampNeg) = 59 then (s_X5_run_b77 F (s_X5_run_l38 F n) u v1 v2 v3 v4 1) else (s_X5_run_b77 F (s_X5_run_l38 F n) u v1 v2 v3 v4 0)) else none)))
theorem e_X5_run_l38 (F : Nat) (n : Nat) (u : S_X5) (v1 : Int32) (v2 : Int32) (v3 : Int32) (v4 : Int32) : s_X5_run_l38 F (n + 1) u v1 v2 v3 v4 = if (a_X5_textLength u) < v4 then (some (v1, m_X5_textLength 0 u)) else (if v3 = 0 then (some (v1, m_X5_textLength 0 u)) else (if v4 = (a_X5_textLength u) then (s_X5_run_b77 F (s_X5_run_l38 F n) u v1 v2 v3 v4 1) else (if lf_ix v4 60 then (if ((a_X5_text u) v4.toNatClampNeg) = 59 then (s_X5_run_b77 F (s_X5_run_l38 F n) u v1 v2 v3 v4 1) else (s_X5_run_b77 F (s_X5_run_l38 F n) u v1 v2 v3 v4 0)) else none))) := rfl
set_option maxHeartbeats 4000000 in
set_option maxRecDepth 20000 in
theorem t_X5_run_l38 (F : Nat) (x : (Int32 × S_X5))  : ∀ (n : Nat) (u : S_X5) (v1 : Int32) (v2 : Int32) (v3 : Int32) (v4 : Int32), s_X5_run_l38 F n u v1 v2 v3 v4 = some x → ev_V mm_X5_run none (ev_XR mm_X5_run (fun r w => r = some (.int x.1) ∧ w = W_X5 x.2)) 38 [some (.ref 0), some (.int v1), some (.int v2), some (.int v3), some (.int v4), none] [] (W_X5 u) 0 0 := by
  intro n
  induction n with
  | zero => intro u v1 v2 v3 v4 hR; cases hR
  | succ n hk38 =>
    intro u v1 v2 v3 v4 hR
    unfold s_X5_run_l38 at hR
    refine ev_run (cs := []) (pc' := 44) (L' := [some (.ref 0), some (.int v1), some (.int v2), some (.int v3), some (.int v4), none]) (st' := [.int (a_X5_textLength u), .int v4]) (w' := W_X5 u) [] 3 (by with_unfolding_all rfl) trivial ?_
    refine ev_br rfl rfl (fun h1 => ?_) (fun h1 => ?_)
    · replace hR := lf_t h1 hR
      refine ev_run (cs := []) (pc' := 142) (L' := [some (.ref 0), some (.int v1), some (.int v2), some (.int v3), some (.int v4), none]) (st' := [.int v1]) (w' := W_X5 (m_X5_textLength 0 u)) [] 4 (by with_unfolding_all rfl) trivial ?_
      cases hR
      exact ev_exit ⟨_, _, rfl, ⟨rfl, Or.inl rfl⟩, ⟨rfl, rfl⟩, Nat.le_refl _, Nat.le_refl _⟩
    · replace hR := lf_f h1 hR
      refine ev_run (cs := []) (pc' := 48) (L' := [some (.ref 0), some (.int v1), some (.int v2), some (.int v3), some (.int v4), none]) (st' := [.int v3]) (w' := W_X5 u) [] 1 (by with_unfolding_all rfl) trivial ?_
      refine ev_br rfl rfl (fun h2 => ?_) (fun h2 => ?_)
      · replace hR := lf_t h2 hR
        refine ev_run (cs := []) (pc' := 142) (L' := [some (.ref 0), some (.int v1), some (.int v2), some (.int v3), some (.int v4), none]) (st' := [.int v1]) (w' := W_X5 (m_X5_textLength 0 u)) [] 4 (by with_unfolding_all rfl) trivial ?_
        cases hR
        exact ev_exit ⟨_, _, rfl, ⟨rfl, Or.inl rfl⟩, ⟨rfl, rfl⟩, Nat.le_refl _, Nat.le_refl _⟩
      · replace hR := lf_f h2 hR
        refine ev_run (cs := []) (pc' := 57) (L' := [some (.ref 0), some (.int v1), some (.int v2), some (.int v3), some (.int v4), none]) (st' := [.int (a_X5_textLength u), .int v4]) (w' := W_X5 u) [] 3 (by with_unfolding_all rfl) trivial ?_
        refine ev_br rfl rfl (fun h3 => ?_) (fun h3 => ?_)
        · replace hR := lf_t h3 hR
          refine ev_run (cs := []) (pc' := 77) (L' := [some (.ref 0), some (.int v1), some (.int v2), some (.int v3), some (.int v4), none]) (st' := [.int 1]) (w' := W_X5 u) [] 2 (by with_unfolding_all rfl) trivial ?_
          exact ev_to2 (t_X5_run_b77 F (s_X5_run_l38 F n) u v1 v2 v3 v4 1 _ hk38 hR) ⟨rfl, rfl, rfl, rfl, rfl, trivial⟩ rfl rfl
        · replace hR := lf_f h3 hR
          obtain ⟨h4, hR⟩ := lf_g hR
          refine ev_run (cs := [lf_ix v4 60]) (pc' := 69) (L' := [some (.ref 0), some (.int v1), some (.int v2), some (.int v3), some (.int v4), none]) (st' := [.int 59, .int ((a_X5_text u) v4.toNatClampNeg)]) (w' := W_X5 u) [] 5 (by with_unfolding_all rfl) (h4) ?_
          refine ev_br rfl rfl (fun h5 => ?_) (fun h5 => ?_)
          · replace hR := lf_f h5 hR
            refine ev_run (cs := []) (pc' := 77) (L' := [some (.ref 0), some (.int v1), some (.int v2), some (.int v3), some (.int v4), none]) (st' := [.int 0]) (w' := W_X5 u) [] 1 (by with_unfolding_all rfl) trivial ?_
            exact ev_to2 (t_X5_run_b77 F (s_X5_run_l38 F n) u v1 v2 v3 v4 0 _ hk38 hR) ⟨rfl, rfl, rfl, rfl, rfl, trivial⟩ rfl rfl
          · replace hR := lf_t h5 hR
            refine ev_run (cs := []) (pc' := 77) (L' := [some (.ref 0), some (.int v1), some (.int v2), some (.int v3), some (.int v4), none]) (st' := [.int 1]) (w' := W_X5 u) [] 2 (by with_unfolding_all rfl) trivial ?_
            exact ev_to2 (t_X5_run_b77 F (s_X5_run_l38 F n) u v1 v2 v3 v4 1 _ hk38 hR) ⟨rfl, rfl, rfl, rfl, rfl, trivial⟩ rfl rfl

def s_X5_run_b13 (F : Nat) (u : S_X5) (p1 : Int32) : Option (Int32 × S_X5) := if p1 ≤ 0 then ((s_X5_save F (m_X5_thrown p1 u)).bind fun y1 => (s_X5_run_l38 F F y1 0 0 1 0)) else (some (0, m_X5_thrown p1 u))
set_option maxHeartbeats 4000000 in
set_option maxRecDepth 20000 in
theorem t_X5_run_b13 (F : Nat) (u : S_X5) (p1 : Int32) (x : (Int32 × S_X5))  (hR : s_X5_run_b13 F u p1 = some x) : ev_V mm_X5_run none (ev_XR mm_X5_run (fun r w => r = some (.int x.1) ∧ w = W_X5 x.2)) 13 [some (.ref 0), none, none, none, none, none] [.int p1, .ref 0] (W_X5 u) 0 0 := by
  unfold s_X5_run_b13 at hR
  refine ev_run (cs := []) (pc' := 20) (L' := [some (.ref 0), none, none, none, none, none]) (st' := [.int p1]) (w' := W_X5 (m_X5_thrown p1 u)) [] 3 (by with_unfolding_all rfl) trivial ?_
  refine ev_br rfl rfl (fun h1 => ?_) (fun h1 => ?_)
  · replace hR := lf_t h1 hR
    refine ev_run (cs := []) (pc' := 26) (L' := [some (.ref 0), none, none, none, none, none]) (st' := [.ref 0]) (w' := W_X5 (m_X5_thrown p1 u)) [] 1 (by with_unfolding_all rfl) trivial ?_
    obtain ⟨y1, h2, hR⟩ := lf_b hR
    refine ev_callV1 0 (t_X5_save F (m_X5_thrown p1 u) _ h2) cv_X5_save ml_X5_108 rfl rfl rfl (Nat.le_of_ble_eq_true rfl) (by with_unfolding_all rfl) (Nat.le_of_ble_eq_true rfl) ⟨Nat.le_of_ble_eq_true rfl, Nat.le_of_ble_eq_true rfl⟩ ⟨Nat.le_refl _, Nat.le_refl _⟩ ?_ ?_
    · rintro r w ⟨rfl, rfl⟩; rfl
    rintro r w ⟨rfl, rfl⟩
    refine ev_nx (pc' := 29) (st' := []) (w' := W_X5 y1) rfl rfl (by with_unfolding_all rfl) rfl rfl ?_
    refine ev_run (cs := []) (pc' := 38) (L' := [some (.ref 0), some (.int 0), some (.int 0), some (.int 1), some (.int 0), none]) (st' := []) (w' := W_X5 y1) [] 8 (by with_unfolding_all rfl) trivial ?_
    exact ev_to2 (t_X5_run_l38 F _ F y1 0 0 1 0 hR) ⟨rfl, rfl, rfl, rfl, rfl, trivial⟩ rfl rfl
  · replace hR := lf_f h1 hR
    refine ev_run (cs := []) (pc' := 24) (L' := [some (.ref 0), none, none, none, none, none]) (st' := [.int 0]) (w' := W_X5 (m_X5_thrown p1 u)) [] 1 (by with_unfolding_all rfl) trivial ?_
    cases hR
    exact ev_exit ⟨_, _, rfl, ⟨rfl, Or.inl rfl⟩, ⟨rfl, rfl⟩, Nat.le_refl _, Nat.le_refl _⟩

def s_X5_run (F : Nat) (u : S_X5) : Option (Int32 × S_X5) := (s_X5_isProgram F u).bind fun y1 => (if y1 then (s_X5_run_b13 F u 0) else (s_X5_run_b13 F u 1))
set_option maxHeartbeats 4000000 in
set_option maxRecDepth 20000 in
theorem t_X5_run (F : Nat) (u : S_X5) (x : (Int32 × S_X5)) (hR : s_X5_run F u = some x) : ev_A yX5_run mm_X5_run none [.ref 0] (W_X5 u) (fun r w => r = some (.int x.1) ∧ w = W_X5 x.2) := by
  unfold s_X5_run at hR
  refine ev_start ok_X5_run (by decide +kernel) rfl rfl (Nat.le_of_ble_eq_true rfl) ?_
  refine ev_run (cs := []) (pc' := 2) (L' := [some (.ref 0), none, none, none, none, none]) (st' := [.ref 0, .ref 0]) (w' := W_X5 u) [] 2 (by with_unfolding_all rfl) trivial ?_
  obtain ⟨y1, h1, hR⟩ := lf_b hR
  refine ev_callV1 0 (t_X5_isProgram F u _ h1) cv_X5_isProgram ml_X5_202 rfl rfl rfl (Nat.le_of_ble_eq_true rfl) (by with_unfolding_all rfl) (Nat.le_of_ble_eq_true rfl) ⟨Nat.le_of_ble_eq_true rfl, Nat.le_of_ble_eq_true rfl⟩ ⟨Nat.le_refl _, Nat.le_refl _⟩ ?_ ?_
  · rintro r w ⟨rfl, rfl⟩; rfl
  rintro r w ⟨rfl, rfl⟩
  refine ev_nx (pc' := 5) (st' := [.int (ev_b y1), .ref 0]) (w' := W_X5 u) rfl rfl (by with_unfolding_all rfl) rfl rfl ?_
  refine ev_br rfl rfl (fun h2 => ?_) (fun h2 => ?_)
  · replace hR := lf_z0 h2 hR
    refine ev_run (cs := []) (pc' := 13) (L' := [some (.ref 0), none, none, none, none, none]) (st' := [.int 1, .ref 0]) (w' := W_X5 u) [] 1 (by with_unfolding_all rfl) trivial ?_
    exact ev_to2 (t_X5_run_b13 F u 1 _ hR) ⟨rfl, trivial⟩ rfl rfl
  · replace hR := lf_z1 h2 hR
    refine ev_run (cs := []) (pc' := 13) (L' := [some (.ref 0), none, none, none, none, none]) (st' := [.int 0, .ref 0]) (w' := W_X5 u) [] 2 (by with_unfolding_all rfl) trivial ?_
    exact ev_to2 (t_X5_run_b13 F u 0 _ hR) ⟨rfl, trivial⟩ rfl rfl

def s_X5_undo_b13 (F : Nat) (u : S_X5) (p1 : Int32) : Option (Int32 × S_X5) := if p1 ≤ 0 then ((s_X5_copy F 122262 20377 (a_X5_saved u) (a_X5_state u) (((a_X5_savedMany u) - 1) * 20377) 0).bind fun y1 => (some ((a_X5_savedMany u) - 1, m_X5_state y1 (m_X5_savedMany ((a_X5_savedMany u) - 1) (m_X5_thrown p1 u))))) else (some (0, m_X5_thrown p1 u))
set_option maxHeartbeats 4000000 in
set_option maxRecDepth 20000 in
theorem t_X5_undo_b13 (F : Nat) (u : S_X5) (p1 : Int32) (x : (Int32 × S_X5))  (hR : s_X5_undo_b13 F u p1 = some x) : ev_V mm_X5_undo none (ev_XR mm_X5_undo (fun r w => r = some (.int x.1) ∧ w = W_X5 x.2)) 13 [some (.ref 0)] [.int p1, .ref 0] (W_X5 u) 0 0 := by
  unfold s_X5_undo_b13 at hR
  refine ev_run (cs := []) (pc' := 20) (L' := [some (.ref 0)]) (st' := [.int p1]) (w' := W_X5 (m_X5_thrown p1 u)) [] 3 (by with_unfolding_all rfl) trivial ?_
  refine ev_br rfl rfl (fun h1 => ?_) (fun h1 => ?_)
  · replace hR := lf_t h1 hR
    refine ev_run (cs := []) (pc' := 47) (L' := [some (.ref 0)]) (st' := [.int (((a_X5_savedMany u) - 1) * 20377), .ref 3]) (w' := W_X5 (m_X5_savedMany ((a_X5_savedMany u) - 1) (m_X5_thrown p1 u))) [] 12 (by with_unfolding_all rfl) trivial ?_
    refine ev_run (cs := []) (pc' := 52) (L' := [some (.ref 0)]) (st' := [.int 0, .ref 1, .int (((a_X5_savedMany u) - 1) * 20377), .ref 3]) (w' := W_X5 (m_X5_savedMany ((a_X5_savedMany u) - 1) (m_X5_thrown p1 u))) [] 3 (by with_unfolding_all rfl) trivial ?_
    obtain ⟨y1, h2, hR⟩ := lf_b hR
    refine ev_callS2 1 3 1 (t_X5_copy F 122262 20377 (a_X5_saved u) (a_X5_state u) (((a_X5_savedMany u) - 1) * 20377) 0 _ h2) cs_X5_copy ml_X5_42 rfl rfl rfl rfl (Nat.le_of_ble_eq_true rfl) (Nat.le_of_ble_eq_true rfl) (by decide) (by with_unfolding_all rfl) (Nat.le_of_ble_eq_true rfl) ⟨Nat.le_of_ble_eq_true rfl, Nat.le_of_ble_eq_true rfl⟩ ⟨Nat.le_refl _, Nat.le_refl _⟩ ?_ ?_
    · rintro r w ⟨rfl, rfl⟩; rfl
    rintro r w ⟨rfl, rfl⟩
    refine ev_nx (pc' := 55) (st' := []) (w' := W_X5 (m_X5_state y1 (m_X5_savedMany ((a_X5_savedMany u) - 1) (m_X5_thrown p1 u)))) rfl rfl (by with_unfolding_all rfl) rfl rfl ?_
    refine ev_run (cs := []) (pc' := 59) (L' := [some (.ref 0)]) (st' := [.int ((a_X5_savedMany u) - 1)]) (w' := W_X5 (m_X5_state y1 (m_X5_savedMany ((a_X5_savedMany u) - 1) (m_X5_thrown p1 u)))) [] 2 (by with_unfolding_all rfl) trivial ?_
    cases hR
    exact ev_exit ⟨_, _, rfl, ⟨rfl, Or.inl rfl⟩, ⟨rfl, rfl⟩, Nat.le_refl _, Nat.le_refl _⟩
  · replace hR := lf_f h1 hR
    refine ev_run (cs := []) (pc' := 24) (L' := [some (.ref 0)]) (st' := [.int 0]) (w' := W_X5 (m_X5_thrown p1 u)) [] 1 (by with_unfolding_all rfl) trivial ?_
    cases hR
    exact ev_exit ⟨_, _, rfl, ⟨rfl, Or.inl rfl⟩, ⟨rfl, rfl⟩, Nat.le_refl _, Nat.le_refl _⟩

def s_X5_undo (F : Nat) (u : S_X5) : Option (Int32 × S_X5) := if (a_X5_savedMany u) ≤ 0 then (s_X5_undo_b13 F u 1) else (s_X5_undo_b13 F u 0)
set_option maxHeartbeats 4000000 in
set_option maxRecDepth 20000 in
theorem t_X5_undo (F : Nat) (u : S_X5) (x : (Int32 × S_X5)) (hR : s_X5_undo F u = some x) : ev_A yX5_undo mm_X5_undo none [.ref 0] (W_X5 u) (fun r w => r = some (.int x.1) ∧ w = W_X5 x.2) := by
  unfold s_X5_undo at hR
  refine ev_start ok_X5_undo (by decide +kernel) rfl rfl (Nat.le_of_ble_eq_true rfl) ?_
  refine ev_run (cs := []) (pc' := 5) (L' := [some (.ref 0)]) (st' := [.int (a_X5_savedMany u), .ref 0]) (w' := W_X5 u) [] 3 (by with_unfolding_all rfl) trivial ?_
  refine ev_br rfl rfl (fun h1 => ?_) (fun h1 => ?_)
  · replace hR := lf_t h1 hR
    refine ev_run (cs := []) (pc' := 13) (L' := [some (.ref 0)]) (st' := [.int 1, .ref 0]) (w' := W_X5 u) [] 1 (by with_unfolding_all rfl) trivial ?_
    exact ev_to2 (t_X5_undo_b13 F u 1 _ hR) ⟨rfl, trivial⟩ rfl rfl
  · replace hR := lf_f h1 hR
    refine ev_run (cs := []) (pc' := 13) (L' := [some (.ref 0)]) (st' := [.int 0, .ref 0]) (w' := W_X5 u) [] 2 (by with_unfolding_all rfl) trivial ?_
    exact ev_to2 (t_X5_undo_b13 F u 0 _ hR) ⟨rfl, trivial⟩ rfl rfl

def s_X5_thingPart (F : Nat) (u : S_X5) (v1 : Int32) (v2 : Int32) : Option (Int32 × S_X5) := if v2 = 0 then ((s_X5_part F u v1 0).bind fun y1 => (some (y1, u))) else (if v2 = 1 then ((s_X5_part F u v1 1).bind fun y2 => (some (y2, u))) else (if v2 = 2 then ((s_X5_part F u v1 2).bind fun y3 => (some (y3, u))) else (if v2 = 3 then ((s_X5_truth F u v1).bind fun y4 => (some (y4, u))) else (if v2 = 4 then ((s_X5_underWay F u v1).bind fun y5 => (some (y5, u))) else (if v2 = 5 then ((s_X5_sumUnderWay F u v1).bind fun y6 => (some (y6, u))) else (if v2 = 6 then ((s_X5_part F u v1 3).bind fun y7 => (some (y7, u))) else (if v2 = 7 then ((s_X5_findReached F u).bind fun y8 => (if lf_ix v1 24 then (some ((a_X5_isReached y8.2) v1.toNatClampNeg, y8.2)) else none)) else ((s_X5_part F u v1 (v2 - 4)).bind fun y9 => (some (y9, u))))))))))
set_option maxHeartbeats 4000000 in
set_option maxRecDepth 20000 in
theorem t_X5_thingPart (F : Nat) (u : S_X5) (v1 : Int32) (v2 : Int32) (x : (Int32 × S_X5)) (hR : s_X5_thingPart F u v1 v2 = some x) : ev_A yX5_thingPart mm_X5_thingPart none [.ref 0, .int v1, .int v2] (W_X5 u) (fun r w => r = some (.int x.1) ∧ w = W_X5 x.2) := by
  unfold s_X5_thingPart at hR
  refine ev_start ok_X5_thingPart (by decide +kernel) rfl rfl (Nat.le_of_ble_eq_true rfl) ?_
  refine ev_run (cs := []) (pc' := 1) (L' := [some (.ref 0), some (.int v1), some (.int v2)]) (st' := [.int v2]) (w' := W_X5 u) [] 1 (by with_unfolding_all rfl) trivial ?_
  by_cases h1 : v2 = 0
  · replace hR := lf_t h1 hR
    refine ev_lit h1 (ev_run [] 1 rfl trivial ?_)
    refine ev_run (cs := []) (pc' := 51) (L' := [some (.ref 0), some (.int v1), some (.int v2)]) (st' := [.int 0, .int v1, .ref 0]) (w' := W_X5 u) [] 3 (by with_unfolding_all rfl) trivial ?_
    obtain ⟨y1, h2, hR⟩ := lf_b hR
    refine ev_callV1 0 (t_X5_part F u v1 0 _ h2) cv_X5_part ml_X5_50 rfl rfl rfl (Nat.le_of_ble_eq_true rfl) (by with_unfolding_all rfl) (Nat.le_of_ble_eq_true rfl) ⟨Nat.le_of_ble_eq_true rfl, Nat.le_of_ble_eq_true rfl⟩ ⟨Nat.le_refl _, Nat.le_refl _⟩ ?_ ?_
    · rintro r w ⟨rfl, rfl⟩; rfl
    rintro r w ⟨rfl, rfl⟩
    refine ev_nx (pc' := 54) (st' := [.int y1]) (w' := W_X5 u) rfl rfl (by with_unfolding_all rfl) rfl rfl ?_
    cases hR
    exact ev_exit ⟨_, _, rfl, ⟨rfl, Or.inl rfl⟩, ⟨rfl, rfl⟩, Nat.le_refl _, Nat.le_refl _⟩
  replace hR := lf_f h1 hR
  by_cases h3 : v2 = 1
  · replace hR := lf_t h3 hR
    refine ev_lit h3 (ev_run [] 1 rfl trivial ?_)
    refine ev_run (cs := []) (pc' := 58) (L' := [some (.ref 0), some (.int v1), some (.int v2)]) (st' := [.int 1, .int v1, .ref 0]) (w' := W_X5 u) [] 3 (by with_unfolding_all rfl) trivial ?_
    obtain ⟨y2, h4, hR⟩ := lf_b hR
    refine ev_callV1 0 (t_X5_part F u v1 1 _ h4) cv_X5_part ml_X5_50 rfl rfl rfl (Nat.le_of_ble_eq_true rfl) (by with_unfolding_all rfl) (Nat.le_of_ble_eq_true rfl) ⟨Nat.le_of_ble_eq_true rfl, Nat.le_of_ble_eq_true rfl⟩ ⟨Nat.le_refl _, Nat.le_refl _⟩ ?_ ?_
    · rintro r w ⟨rfl, rfl⟩; rfl
    rintro r w ⟨rfl, rfl⟩
    refine ev_nx (pc' := 61) (st' := [.int y2]) (w' := W_X5 u) rfl rfl (by with_unfolding_all rfl) rfl rfl ?_
    cases hR
    exact ev_exit ⟨_, _, rfl, ⟨rfl, Or.inl rfl⟩, ⟨rfl, rfl⟩, Nat.le_refl _, Nat.le_refl _⟩
  replace hR := lf_f h3 hR
  by_cases h5 : v2 = 2
  · replace hR := lf_t h5 hR
    refine ev_lit h5 (ev_run [] 1 rfl trivial ?_)
    refine ev_run (cs := []) (pc' := 65) (L' := [some (.ref 0), some (.int v1), some (.int v2)]) (st' := [.int 2, .int v1, .ref 0]) (w' := W_X5 u) [] 3 (by with_unfolding_all rfl) trivial ?_
    obtain ⟨y3, h6, hR⟩ := lf_b hR
    refine ev_callV1 0 (t_X5_part F u v1 2 _ h6) cv_X5_part ml_X5_50 rfl rfl rfl (Nat.le_of_ble_eq_true rfl) (by with_unfolding_all rfl) (Nat.le_of_ble_eq_true rfl) ⟨Nat.le_of_ble_eq_true rfl, Nat.le_of_ble_eq_true rfl⟩ ⟨Nat.le_refl _, Nat.le_refl _⟩ ?_ ?_
    · rintro r w ⟨rfl, rfl⟩; rfl
    rintro r w ⟨rfl, rfl⟩
    refine ev_nx (pc' := 68) (st' := [.int y3]) (w' := W_X5 u) rfl rfl (by with_unfolding_all rfl) rfl rfl ?_
    cases hR
    exact ev_exit ⟨_, _, rfl, ⟨rfl, Or.inl rfl⟩, ⟨rfl, rfl⟩, Nat.le_refl _, Nat.le_refl _⟩
  replace hR := lf_f h5 hR
  by_cases h7 : v2 = 3
  · replace hR := lf_t h7 hR
    refine ev_lit h7 (ev_run [] 1 rfl trivial ?_)
    refine ev_run (cs := []) (pc' := 71) (L' := [some (.ref 0), some (.int v1), some (.int v2)]) (st' := [.int v1, .ref 0]) (w' := W_X5 u) [] 2 (by with_unfolding_all rfl) trivial ?_
    obtain ⟨y4, h8, hR⟩ := lf_b hR
    refine ev_callV1 0 (t_X5_truth F u v1 _ h8) cv_X5_truth ml_X5_91 rfl rfl rfl (Nat.le_of_ble_eq_true rfl) (by with_unfolding_all rfl) (Nat.le_of_ble_eq_true rfl) ⟨Nat.le_of_ble_eq_true rfl, Nat.le_of_ble_eq_true rfl⟩ ⟨Nat.le_refl _, Nat.le_refl _⟩ ?_ ?_
    · rintro r w ⟨rfl, rfl⟩; rfl
    rintro r w ⟨rfl, rfl⟩
    refine ev_nx (pc' := 74) (st' := [.int y4]) (w' := W_X5 u) rfl rfl (by with_unfolding_all rfl) rfl rfl ?_
    cases hR
    exact ev_exit ⟨_, _, rfl, ⟨rfl, Or.inl rfl⟩, ⟨rfl, rfl⟩, Nat.le_refl _, Nat.le_refl _⟩
  replace hR := lf_f h7 hR
  by_cases h9 : v2 = 4
  · replace hR := lf_t h9 hR
    refine ev_lit h9 (ev_run [] 1 rfl trivial ?_)
    refine ev_run (cs := []) (pc' := 77) (L' := [some (.ref 0), some (.int v1), some (.int v2)]) (st' := [.int v1, .ref 0]) (w' := W_X5 u) [] 2 (by with_unfolding_all rfl) trivial ?_
    obtain ⟨y5, h10, hR⟩ := lf_b hR
    refine ev_callV1 0 (t_X5_underWay F u v1 _ h10) cv_X5_underWay ml_X5_87 rfl rfl rfl (Nat.le_of_ble_eq_true rfl) (by with_unfolding_all rfl) (Nat.le_of_ble_eq_true rfl) ⟨Nat.le_of_ble_eq_true rfl, Nat.le_of_ble_eq_true rfl⟩ ⟨Nat.le_refl _, Nat.le_refl _⟩ ?_ ?_
    · rintro r w ⟨rfl, rfl⟩; rfl
    rintro r w ⟨rfl, rfl⟩
    refine ev_nx (pc' := 80) (st' := [.int y5]) (w' := W_X5 u) rfl rfl (by with_unfolding_all rfl) rfl rfl ?_
    cases hR
    exact ev_exit ⟨_, _, rfl, ⟨rfl, Or.inl rfl⟩, ⟨rfl, rfl⟩, Nat.le_refl _, Nat.le_refl _⟩
  replace hR := lf_f h9 hR
  by_cases h11 : v2 = 5
  · replace hR := lf_t h11 hR
    refine ev_lit h11 (ev_run [] 1 rfl trivial ?_)
    refine ev_run (cs := []) (pc' := 83) (L' := [some (.ref 0), some (.int v1), some (.int v2)]) (st' := [.int v1, .ref 0]) (w' := W_X5 u) [] 2 (by with_unfolding_all rfl) trivial ?_
    obtain ⟨y6, h12, hR⟩ := lf_b hR
    refine ev_callV1 0 (t_X5_sumUnderWay F u v1 _ h12) cv_X5_sumUnderWay ml_X5_171 rfl rfl rfl (Nat.le_of_ble_eq_true rfl) (by with_unfolding_all rfl) (Nat.le_of_ble_eq_true rfl) ⟨Nat.le_of_ble_eq_true rfl, Nat.le_of_ble_eq_true rfl⟩ ⟨Nat.le_refl _, Nat.le_refl _⟩ ?_ ?_
    · rintro r w ⟨rfl, rfl⟩; rfl
    rintro r w ⟨rfl, rfl⟩
    refine ev_nx (pc' := 86) (st' := [.int y6]) (w' := W_X5 u) rfl rfl (by with_unfolding_all rfl) rfl rfl ?_
    cases hR
    exact ev_exit ⟨_, _, rfl, ⟨rfl, Or.inl rfl⟩, ⟨rfl, rfl⟩, Nat.le_refl _, Nat.le_refl _⟩
  replace hR := lf_f h11 hR
  by_cases h13 : v2 = 6
  · replace hR := lf_t h13 hR
    refine ev_lit h13 (ev_run [] 1 rfl trivial ?_)
    refine ev_run (cs := []) (pc' := 90) (L' := [some (.ref 0), some (.int v1), some (.int v2)]) (st' := [.int 3, .int v1, .ref 0]) (w' := W_X5 u) [] 3 (by with_unfolding_all rfl) trivial ?_
    obtain ⟨y7, h14, hR⟩ := lf_b hR
    refine ev_callV1 0 (t_X5_part F u v1 3 _ h14) cv_X5_part ml_X5_50 rfl rfl rfl (Nat.le_of_ble_eq_true rfl) (by with_unfolding_all rfl) (Nat.le_of_ble_eq_true rfl) ⟨Nat.le_of_ble_eq_true rfl, Nat.le_of_ble_eq_true rfl⟩ ⟨Nat.le_refl _, Nat.le_refl _⟩ ?_ ?_
    · rintro r w ⟨rfl, rfl⟩; rfl
    rintro r w ⟨rfl, rfl⟩
    refine ev_nx (pc' := 93) (st' := [.int y7]) (w' := W_X5 u) rfl rfl (by with_unfolding_all rfl) rfl rfl ?_
    cases hR
    exact ev_exit ⟨_, _, rfl, ⟨rfl, Or.inl rfl⟩, ⟨rfl, rfl⟩, Nat.le_refl _, Nat.le_refl _⟩
  replace hR := lf_f h13 hR
  by_cases h15 : v2 = 7
  · replace hR := lf_t h15 hR
    refine ev_lit h15 (ev_run [] 1 rfl trivial ?_)
    refine ev_run (cs := []) (pc' := 95) (L' := [some (.ref 0), some (.int v1), some (.int v2)]) (st' := [.ref 0]) (w' := W_X5 u) [] 1 (by with_unfolding_all rfl) trivial ?_
    obtain ⟨y8, h16, hR⟩ := lf_b hR
    refine ev_callV1 0 (t_X5_findReached F u _ h16) cv_X5_findReached ml_X5_212 rfl rfl rfl (Nat.le_of_ble_eq_true rfl) (by with_unfolding_all rfl) (Nat.le_of_ble_eq_true rfl) ⟨Nat.le_of_ble_eq_true rfl, Nat.le_of_ble_eq_true rfl⟩ ⟨Nat.le_refl _, Nat.le_refl _⟩ ?_ ?_
    · rintro r w ⟨rfl, rfl⟩; rfl
    rintro r w ⟨rfl, rfl⟩
    refine ev_nx (pc' := 98) (st' := [.int y8.1]) (w' := W_X5 y8.2) rfl rfl (by with_unfolding_all rfl) rfl rfl ?_
    obtain ⟨h17, hR⟩ := lf_g hR
    refine ev_run (cs := [lf_ix v1 24]) (pc' := 105) (L' := [some (.ref 0), some (.int v1), some (.int v2)]) (st' := [.int ((a_X5_isReached y8.2) v1.toNatClampNeg)]) (w' := W_X5 y8.2) [] 5 (by with_unfolding_all rfl) (h17) ?_
    cases hR
    exact ev_exit ⟨_, _, rfl, ⟨rfl, Or.inl rfl⟩, ⟨rfl, rfl⟩, Nat.le_refl _, Nat.le_refl _⟩
  replace hR := lf_f h15 hR
  refine ev_tso 106 rfl ?_ rfl ?_
  · have k0 := lf_nt h1; have k1 := lf_nt h3; have k2 := lf_nt h5; have k3 := lf_nt h7; have k4 := lf_nt h9; have k5 := lf_nt h11; have k6 := lf_nt h13; have k7 := lf_nt h15; rw [show (0 : Int32).toInt = 0 from rfl] at k0; rw [show (1 : Int32).toInt = 1 from rfl] at k1; rw [show (2 : Int32).toInt = 2 from rfl] at k2; rw [show (3 : Int32).toInt = 3 from rfl] at k3; rw [show (4 : Int32).toInt = 4 from rfl] at k4; rw [show (5 : Int32).toInt = 5 from rfl] at k5; rw [show (6 : Int32).toInt = 6 from rfl] at k6; rw [show (7 : Int32).toInt = 7 from rfl] at k7; omega
  refine ev_run (cs := []) (pc' := 111) (L' := [some (.ref 0), some (.int v1), some (.int v2)]) (st' := [.int (v2 - 4), .int v1, .ref 0]) (w' := W_X5 u) [] 5 (by with_unfolding_all rfl) trivial ?_
  obtain ⟨y9, h18, hR⟩ := lf_b hR
  refine ev_callV1 0 (t_X5_part F u v1 (v2 - 4) _ h18) cv_X5_part ml_X5_50 rfl rfl rfl (Nat.le_of_ble_eq_true rfl) (by with_unfolding_all rfl) (Nat.le_of_ble_eq_true rfl) ⟨Nat.le_of_ble_eq_true rfl, Nat.le_of_ble_eq_true rfl⟩ ⟨Nat.le_refl _, Nat.le_refl _⟩ ?_ ?_
  · rintro r w ⟨rfl, rfl⟩; rfl
  rintro r w ⟨rfl, rfl⟩
  refine ev_nx (pc' := 114) (st' := [.int y9]) (w' := W_X5 u) rfl rfl (by with_unfolding_all rfl) rfl rfl ?_
  cases hR
  exact ev_exit ⟨_, _, rfl, ⟨rfl, Or.inl rfl⟩, ⟨rfl, rfl⟩, Nat.le_refl _, Nat.le_refl _⟩

def s_X5_thing_b28 (F : Nat) (u : S_X5) (v1 : Int32) (v2 : Int32) (p1 : Int32) : Option (Int32 × S_X5) := if p1 ≤ 0 then ((s_X5_thingPart F (m_X5_thrown p1 u) v1 v2).bind fun y1 => (some (y1.1, y1.2))) else (some (0, m_X5_thrown p1 u))
set_option maxHeartbeats 4000000 in
set_option maxRecDepth 20000 in
theorem t_X5_thing_b28 (F : Nat) (u : S_X5) (v1 : Int32) (v2 : Int32) (p1 : Int32) (x : (Int32 × S_X5))  (hR : s_X5_thing_b28 F u v1 v2 p1 = some x) : ev_V mm_X5_thing none (ev_XR mm_X5_thing (fun r w => r = some (.int x.1) ∧ w = W_X5 x.2)) 28 [some (.ref 0), some (.int v1), some (.int v2)] [.int p1, .ref 0] (W_X5 u) 0 0 := by
  unfold s_X5_thing_b28 at hR
  refine ev_run (cs := []) (pc' := 35) (L' := [some (.ref 0), some (.int v1), some (.int v2)]) (st' := [.int p1]) (w' := W_X5 (m_X5_thrown p1 u)) [] 3 (by with_unfolding_all rfl) trivial ?_
  refine ev_br rfl rfl (fun h1 => ?_) (fun h1 => ?_)
  · replace hR := lf_t h1 hR
    refine ev_run (cs := []) (pc' := 45) (L' := [some (.ref 0), some (.int v1), some (.int v2)]) (st' := [.int v2, .int v1, .ref 0]) (w' := W_X5 (m_X5_thrown p1 u)) [] 3 (by with_unfolding_all rfl) trivial ?_
    obtain ⟨y1, h2, hR⟩ := lf_b hR
    refine ev_callV1 0 (t_X5_thingPart F (m_X5_thrown p1 u) v1 v2 _ h2) cv_X5_thingPart ml_X5_215 rfl rfl rfl (Nat.le_of_ble_eq_true rfl) (by with_unfolding_all rfl) (Nat.le_of_ble_eq_true rfl) ⟨Nat.le_of_ble_eq_true rfl, Nat.le_of_ble_eq_true rfl⟩ ⟨Nat.le_refl _, Nat.le_refl _⟩ ?_ ?_
    · rintro r w ⟨rfl, rfl⟩; rfl
    rintro r w ⟨rfl, rfl⟩
    refine ev_nx (pc' := 48) (st' := [.int y1.1]) (w' := W_X5 y1.2) rfl rfl (by with_unfolding_all rfl) rfl rfl ?_
    cases hR
    exact ev_exit ⟨_, _, rfl, ⟨rfl, Or.inl rfl⟩, ⟨rfl, rfl⟩, Nat.le_refl _, Nat.le_refl _⟩
  · replace hR := lf_f h1 hR
    refine ev_run (cs := []) (pc' := 48) (L' := [some (.ref 0), some (.int v1), some (.int v2)]) (st' := [.int 0]) (w' := W_X5 (m_X5_thrown p1 u)) [] 2 (by with_unfolding_all rfl) trivial ?_
    cases hR
    exact ev_exit ⟨_, _, rfl, ⟨rfl, Or.inl rfl⟩, ⟨rfl, rfl⟩, Nat.le_refl _, Nat.le_refl _⟩

def s_X5_thing (F : Nat) (u : S_X5) (v1 : Int32) (v2 : Int32) : Option (Int32 × S_X5) := (s_X5_isThing F u v1).bind fun y1 => (if y1 then ((s_X5_within F v2 0 12).bind fun y2 => (if y2 then (s_X5_thing_b28 F u v1 v2 0) else (s_X5_thing_b28 F u v1 v2 2))) else (s_X5_thing_b28 F u v1 v2 1))
set_option maxHeartbeats 4000000 in
set_option maxRecDepth 20000 in
theorem t_X5_thing (F : Nat) (u : S_X5) (v1 : Int32) (v2 : Int32) (x : (Int32 × S_X5)) (hR : s_X5_thing F u v1 v2 = some x) : ev_A yX5_thing mm_X5_thing none [.ref 0, .int v1, .int v2] (W_X5 u) (fun r w => r = some (.int x.1) ∧ w = W_X5 x.2) := by
  unfold s_X5_thing at hR
  refine ev_start ok_X5_thing (by decide +kernel) rfl rfl (Nat.le_of_ble_eq_true rfl) ?_
  refine ev_run (cs := []) (pc' := 3) (L' := [some (.ref 0), some (.int v1), some (.int v2)]) (st' := [.int v1, .ref 0, .ref 0]) (w' := W_X5 u) [] 3 (by with_unfolding_all rfl) trivial ?_
  obtain ⟨y1, h1, hR⟩ := lf_b hR
  refine ev_callV1 0 (t_X5_isThing F u v1 _ h1) cv_X5_isThing ml_X5_114 rfl rfl rfl (Nat.le_of_ble_eq_true rfl) (by with_unfolding_all rfl) (Nat.le_of_ble_eq_true rfl) ⟨Nat.le_of_ble_eq_true rfl, Nat.le_of_ble_eq_true rfl⟩ ⟨Nat.le_refl _, Nat.le_refl _⟩ ?_ ?_
  · rintro r w ⟨rfl, rfl⟩; rfl
  rintro r w ⟨rfl, rfl⟩
  refine ev_nx (pc' := 6) (st' := [.int (ev_b y1), .ref 0]) (w' := W_X5 u) rfl rfl (by with_unfolding_all rfl) rfl rfl ?_
  refine ev_br rfl rfl (fun h2 => ?_) (fun h2 => ?_)
  · replace hR := lf_z1 h2 hR
    refine ev_run (cs := []) (pc' := 17) (L' := [some (.ref 0), some (.int v1), some (.int v2)]) (st' := [.int 12, .int 0, .int v2, .ref 0]) (w' := W_X5 u) [] 3 (by with_unfolding_all rfl) trivial ?_
    obtain ⟨y2, h3, hR⟩ := lf_b hR
    refine ev_callS1 0 (t_X5_within F v2 0 12 _ h3) cs_X5_within ml_X5_46 rfl rfl rfl (Nat.le_of_ble_eq_true rfl) (by with_unfolding_all rfl) (Nat.le_of_ble_eq_true rfl) ⟨Nat.le_of_ble_eq_true rfl, Nat.le_of_ble_eq_true rfl⟩ ⟨Nat.le_refl _, Nat.le_refl _⟩ ?_ ?_
    · rintro r w ⟨rfl, rfl⟩; rfl
    rintro r w ⟨rfl, rfl⟩
    refine ev_nx (pc' := 20) (st' := [.int (ev_b y2), .ref 0]) (w' := W_X5 u) rfl rfl (by with_unfolding_all rfl) rfl rfl ?_
    refine ev_br rfl rfl (fun h4 => ?_) (fun h4 => ?_)
    · replace hR := lf_z0 h4 hR
      refine ev_run (cs := []) (pc' := 28) (L' := [some (.ref 0), some (.int v1), some (.int v2)]) (st' := [.int 2, .ref 0]) (w' := W_X5 u) [] 1 (by with_unfolding_all rfl) trivial ?_
      exact ev_to2 (t_X5_thing_b28 F u v1 v2 2 _ hR) ⟨rfl, rfl, rfl, trivial⟩ rfl rfl
    · replace hR := lf_z1 h4 hR
      refine ev_run (cs := []) (pc' := 28) (L' := [some (.ref 0), some (.int v1), some (.int v2)]) (st' := [.int 0, .ref 0]) (w' := W_X5 u) [] 2 (by with_unfolding_all rfl) trivial ?_
      exact ev_to2 (t_X5_thing_b28 F u v1 v2 0 _ hR) ⟨rfl, rfl, rfl, trivial⟩ rfl rfl
  · replace hR := lf_z0 h2 hR
    refine ev_run (cs := []) (pc' := 28) (L' := [some (.ref 0), some (.int v1), some (.int v2)]) (st' := [.int 1, .ref 0]) (w' := W_X5 u) [] 2 (by with_unfolding_all rfl) trivial ?_
    exact ev_to2 (t_X5_thing_b28 F u v1 v2 1 _ hR) ⟨rfl, rfl, rfl, trivial⟩ rfl rfl

def s_X5_slot_b23 (F : Nat) (u : S_X5) (v1 : Int32) (v2 : Int32) (p1 : Int32) : Option (Int32 × S_X5) := if p1 ≤ 0 then ((s_X5_slotOf F (m_X5_thrown p1 u) v1 v2).bind fun y1 => (some (y1, m_X5_thrown p1 u))) else (some (0, m_X5_thrown p1 u))
set_option maxHeartbeats 4000000 in
set_option maxRecDepth 20000 in
theorem t_X5_slot_b23 (F : Nat) (u : S_X5) (v1 : Int32) (v2 : Int32) (p1 : Int32) (x : (Int32 × S_X5))  (hR : s_X5_slot_b23 F u v1 v2 p1 = some x) : ev_V mm_X5_slot none (ev_XR mm_X5_slot (fun r w => r = some (.int x.1) ∧ w = W_X5 x.2)) 23 [some (.ref 0), some (.int v1), some (.int v2)] [.int p1, .ref 0] (W_X5 u) 0 0 := by
  unfold s_X5_slot_b23 at hR
  refine ev_run (cs := []) (pc' := 30) (L' := [some (.ref 0), some (.int v1), some (.int v2)]) (st' := [.int p1]) (w' := W_X5 (m_X5_thrown p1 u)) [] 3 (by with_unfolding_all rfl) trivial ?_
  refine ev_br rfl rfl (fun h1 => ?_) (fun h1 => ?_)
  · replace hR := lf_t h1 hR
    refine ev_run (cs := []) (pc' := 40) (L' := [some (.ref 0), some (.int v1), some (.int v2)]) (st' := [.int v2, .int v1, .ref 0]) (w' := W_X5 (m_X5_thrown p1 u)) [] 3 (by with_unfolding_all rfl) trivial ?_
    obtain ⟨y1, h2, hR⟩ := lf_b hR
    refine ev_callV1 0 (t_X5_slotOf F (m_X5_thrown p1 u) v1 v2 _ h2) cv_X5_slotOf ml_X5_58 rfl rfl rfl (Nat.le_of_ble_eq_true rfl) (by with_unfolding_all rfl) (Nat.le_of_ble_eq_true rfl) ⟨Nat.le_of_ble_eq_true rfl, Nat.le_of_ble_eq_true rfl⟩ ⟨Nat.le_refl _, Nat.le_refl _⟩ ?_ ?_
    · rintro r w ⟨rfl, rfl⟩; rfl
    rintro r w ⟨rfl, rfl⟩
    refine ev_nx (pc' := 43) (st' := [.int y1]) (w' := W_X5 (m_X5_thrown p1 u)) rfl rfl (by with_unfolding_all rfl) rfl rfl ?_
    cases hR
    exact ev_exit ⟨_, _, rfl, ⟨rfl, Or.inl rfl⟩, ⟨rfl, rfl⟩, Nat.le_refl _, Nat.le_refl _⟩
  · replace hR := lf_f h1 hR
    refine ev_run (cs := []) (pc' := 43) (L' := [some (.ref 0), some (.int v1), some (.int v2)]) (st' := [.int 0]) (w' := W_X5 (m_X5_thrown p1 u)) [] 2 (by with_unfolding_all rfl) trivial ?_
    cases hR
    exact ev_exit ⟨_, _, rfl, ⟨rfl, Or.inl rfl⟩, ⟨rfl, rfl⟩, Nat.le_refl _, Nat.le_refl _⟩

def s_X5_slot (F : Nat) (u : S_X5) (v1 : Int32) (v2 : Int32) : Option (Int32 × S_X5) := (s_X5_isThing F u v1).bind fun y1 => (if y1 then ((s_X5_within F v2 0 3).bind fun y2 => (if y2 then (s_X5_slot_b23 F u v1 v2 0) else (s_X5_slot_b23 F u v1 v2 1))) else (s_X5_slot_b23 F u v1 v2 1))
set_option maxHeartbeats 4000000 in
set_option maxRecDepth 20000 in
theorem t_X5_slot (F : Nat) (u : S_X5) (v1 : Int32) (v2 : Int32) (x : (Int32 × S_X5)) (hR : s_X5_slot F u v1 v2 = some x) : ev_A yX5_slot mm_X5_slot none [.ref 0, .int v1, .int v2] (W_X5 u) (fun r w => r = some (.int x.1) ∧ w = W_X5 x.2) := by
  unfold s_X5_slot at hR
  refine ev_start ok_X5_slot (by decide +kernel) rfl rfl (Nat.le_of_ble_eq_true rfl) ?_
  refine ev_run (cs := []) (pc' := 3) (L' := [some (.ref 0), some (.int v1), some (.int v2)]) (st' := [.int v1, .ref 0, .ref 0]) (w' := W_X5 u) [] 3 (by with_unfolding_all rfl) trivial ?_
  obtain ⟨y1, h1, hR⟩ := lf_b hR
  refine ev_callV1 0 (t_X5_isThing F u v1 _ h1) cv_X5_isThing ml_X5_114 rfl rfl rfl (Nat.le_of_ble_eq_true rfl) (by with_unfolding_all rfl) (Nat.le_of_ble_eq_true rfl) ⟨Nat.le_of_ble_eq_true rfl, Nat.le_of_ble_eq_true rfl⟩ ⟨Nat.le_refl _, Nat.le_refl _⟩ ?_ ?_
  · rintro r w ⟨rfl, rfl⟩; rfl
  rintro r w ⟨rfl, rfl⟩
  refine ev_nx (pc' := 6) (st' := [.int (ev_b y1), .ref 0]) (w' := W_X5 u) rfl rfl (by with_unfolding_all rfl) rfl rfl ?_
  refine ev_br rfl rfl (fun h2 => ?_) (fun h2 => ?_)
  · replace hR := lf_z0 h2 hR
    refine ev_run (cs := []) (pc' := 23) (L' := [some (.ref 0), some (.int v1), some (.int v2)]) (st' := [.int 1, .ref 0]) (w' := W_X5 u) [] 1 (by with_unfolding_all rfl) trivial ?_
    exact ev_to2 (t_X5_slot_b23 F u v1 v2 1 _ hR) ⟨rfl, rfl, rfl, trivial⟩ rfl rfl
  · replace hR := lf_z1 h2 hR
    refine ev_run (cs := []) (pc' := 12) (L' := [some (.ref 0), some (.int v1), some (.int v2)]) (st' := [.int 3, .int 0, .int v2, .ref 0]) (w' := W_X5 u) [] 3 (by with_unfolding_all rfl) trivial ?_
    obtain ⟨y2, h3, hR⟩ := lf_b hR
    refine ev_callS1 0 (t_X5_within F v2 0 3 _ h3) cs_X5_within ml_X5_46 rfl rfl rfl (Nat.le_of_ble_eq_true rfl) (by with_unfolding_all rfl) (Nat.le_of_ble_eq_true rfl) ⟨Nat.le_of_ble_eq_true rfl, Nat.le_of_ble_eq_true rfl⟩ ⟨Nat.le_refl _, Nat.le_refl _⟩ ?_ ?_
    · rintro r w ⟨rfl, rfl⟩; rfl
    rintro r w ⟨rfl, rfl⟩
    refine ev_nx (pc' := 15) (st' := [.int (ev_b y2), .ref 0]) (w' := W_X5 u) rfl rfl (by with_unfolding_all rfl) rfl rfl ?_
    refine ev_br rfl rfl (fun h4 => ?_) (fun h4 => ?_)
    · replace hR := lf_z0 h4 hR
      refine ev_run (cs := []) (pc' := 23) (L' := [some (.ref 0), some (.int v1), some (.int v2)]) (st' := [.int 1, .ref 0]) (w' := W_X5 u) [] 1 (by with_unfolding_all rfl) trivial ?_
      exact ev_to2 (t_X5_slot_b23 F u v1 v2 1 _ hR) ⟨rfl, rfl, rfl, trivial⟩ rfl rfl
    · replace hR := lf_z1 h4 hR
      refine ev_run (cs := []) (pc' := 23) (L' := [some (.ref 0), some (.int v1), some (.int v2)]) (st' := [.int 0, .ref 0]) (w' := W_X5 u) [] 2 (by with_unfolding_all rfl) trivial ?_
      exact ev_to2 (t_X5_slot_b23 F u v1 v2 0 _ hR) ⟨rfl, rfl, rfl, trivial⟩ rfl rfl

def s_X5_hand_b15 (F : Nat) (u : S_X5) (v1 : Int32) (p1 : Int32) : Option (Int32 × S_X5) := if p1 ≤ 0 then (if lf_ix (13 + v1) 20377 then (some ((a_X5_state u) ((13 + v1).toNatClampNeg), m_X5_thrown p1 u)) else none) else (some (0, m_X5_thrown p1 u))
set_option maxHeartbeats 4000000 in
set_option maxRecDepth 20000 in
theorem t_X5_hand_b15 (F : Nat) (u : S_X5) (v1 : Int32) (p1 : Int32) (x : (Int32 × S_X5))  (hR : s_X5_hand_b15 F u v1 p1 = some x) : ev_V mm_X5_hand none (ev_XR mm_X5_hand (fun r w => r = some (.int x.1) ∧ w = W_X5 x.2)) 15 [some (.ref 0), some (.int v1)] [.int p1, .ref 0] (W_X5 u) 0 0 := by
  unfold s_X5_hand_b15 at hR
  refine ev_run (cs := []) (pc' := 22) (L' := [some (.ref 0), some (.int v1)]) (st' := [.int p1]) (w' := W_X5 (m_X5_thrown p1 u)) [] 3 (by with_unfolding_all rfl) trivial ?_
  refine ev_br rfl rfl (fun h1 => ?_) (fun h1 => ?_)
  · replace hR := lf_t h1 hR
    obtain ⟨h2, hR⟩ := lf_g hR
    refine ev_run (cs := [lf_ix (13 + v1) 20377]) (pc' := 38) (L' := [some (.ref 0), some (.int v1)]) (st' := [.int ((a_X5_state u) ((13 + v1).toNatClampNeg))]) (w' := W_X5 (m_X5_thrown p1 u)) [] 6 (by with_unfolding_all rfl) (h2) ?_
    cases hR
    exact ev_exit ⟨_, _, rfl, ⟨rfl, Or.inl rfl⟩, ⟨rfl, rfl⟩, Nat.le_refl _, Nat.le_refl _⟩
  · replace hR := lf_f h1 hR
    refine ev_run (cs := []) (pc' := 38) (L' := [some (.ref 0), some (.int v1)]) (st' := [.int 0]) (w' := W_X5 (m_X5_thrown p1 u)) [] 2 (by with_unfolding_all rfl) trivial ?_
    cases hR
    exact ev_exit ⟨_, _, rfl, ⟨rfl, Or.inl rfl⟩, ⟨rfl, rfl⟩, Nat.le_refl _, Nat.le_refl _⟩

def s_X5_hand (F : Nat) (u : S_X5) (v1 : Int32) : Option (Int32 × S_X5) := (s_X5_within F v1 0 3).bind fun y1 => (if y1 then (s_X5_hand_b15 F u v1 0) else (s_X5_hand_b15 F u v1 1))
set_option maxHeartbeats 4000000 in
set_option maxRecDepth 20000 in
theorem t_X5_hand (F : Nat) (u : S_X5) (v1 : Int32) (x : (Int32 × S_X5)) (hR : s_X5_hand F u v1 = some x) : ev_A yX5_hand mm_X5_hand none [.ref 0, .int v1] (W_X5 u) (fun r w => r = some (.int x.1) ∧ w = W_X5 x.2) := by
  unfold s_X5_hand at hR
  refine ev_start ok_X5_hand (by decide +kernel) rfl rfl (Nat.le_of_ble_eq_true rfl) ?_
  refine ev_run (cs := []) (pc' := 4) (L' := [some (.ref 0), some (.int v1)]) (st' := [.int 3, .int 0, .int v1, .ref 0]) (w' := W_X5 u) [] 4 (by with_unfolding_all rfl) trivial ?_
  obtain ⟨y1, h1, hR⟩ := lf_b hR
  refine ev_callS1 0 (t_X5_within F v1 0 3 _ h1) cs_X5_within ml_X5_46 rfl rfl rfl (Nat.le_of_ble_eq_true rfl) (by with_unfolding_all rfl) (Nat.le_of_ble_eq_true rfl) ⟨Nat.le_of_ble_eq_true rfl, Nat.le_of_ble_eq_true rfl⟩ ⟨Nat.le_refl _, Nat.le_refl _⟩ ?_ ?_
  · rintro r w ⟨rfl, rfl⟩; rfl
  rintro r w ⟨rfl, rfl⟩
  refine ev_nx (pc' := 7) (st' := [.int (ev_b y1), .ref 0]) (w' := W_X5 u) rfl rfl (by with_unfolding_all rfl) rfl rfl ?_
  refine ev_br rfl rfl (fun h2 => ?_) (fun h2 => ?_)
  · replace hR := lf_z0 h2 hR
    refine ev_run (cs := []) (pc' := 15) (L' := [some (.ref 0), some (.int v1)]) (st' := [.int 1, .ref 0]) (w' := W_X5 u) [] 1 (by with_unfolding_all rfl) trivial ?_
    exact ev_to2 (t_X5_hand_b15 F u v1 1 _ hR) ⟨rfl, rfl, trivial⟩ rfl rfl
  · replace hR := lf_z1 h2 hR
    refine ev_run (cs := []) (pc' := 15) (L' := [some (.ref 0), some (.int v1)]) (st' := [.int 0, .ref 0]) (w' := W_X5 u) [] 2 (by with_unfolding_all rfl) trivial ?_
    exact ev_to2 (t_X5_hand_b15 F u v1 0 _ hR) ⟨rfl, rfl, trivial⟩ rfl rfl

def s_X5_report_b35 (F : Nat) (u : S_X5) (v1 : Int32) (v2 : Int32) (p1 : Int32) : Option (Int32 × S_X5) := if p1 ≤ 0 then ((s_X5_atPlace F (m_X5_thrown p1 u) v1).bind fun y1 => ((s_X5_reportPart F (m_X5_thrown p1 u) y1 v2).bind fun y2 => (some (y2, m_X5_thrown p1 u)))) else (some (0, m_X5_thrown p1 u))
set_option maxHeartbeats 4000000 in
set_option maxRecDepth 20000 in
theorem t_X5_report_b35 (F : Nat) (u : S_X5) (v1 : Int32) (v2 : Int32) (p1 : Int32) (x : (Int32 × S_X5))  (hR : s_X5_report_b35 F u v1 v2 p1 = some x) : ev_V mm_X5_report none (ev_XR mm_X5_report (fun r w => r = some (.int x.1) ∧ w = W_X5 x.2)) 35 [some (.ref 0), some (.int v1), some (.int v2)] [.int p1, .ref 0] (W_X5 u) 0 0 := by
  unfold s_X5_report_b35 at hR
  refine ev_run (cs := []) (pc' := 42) (L' := [some (.ref 0), some (.int v1), some (.int v2)]) (st' := [.int p1]) (w' := W_X5 (m_X5_thrown p1 u)) [] 3 (by with_unfolding_all rfl) trivial ?_
  refine ev_br rfl rfl (fun h1 => ?_) (fun h1 => ?_)
  · replace hR := lf_t h1 hR
    refine ev_run (cs := []) (pc' := 52) (L' := [some (.ref 0), some (.int v1), some (.int v2)]) (st' := [.int v1, .ref 0, .ref 0]) (w' := W_X5 (m_X5_thrown p1 u)) [] 3 (by with_unfolding_all rfl) trivial ?_
    obtain ⟨y1, h2, hR⟩ := lf_b hR
    refine ev_callV1 0 (t_X5_atPlace F (m_X5_thrown p1 u) v1 _ h2) cv_X5_atPlace ml_X5_218 rfl rfl rfl (Nat.le_of_ble_eq_true rfl) (by with_unfolding_all rfl) (Nat.le_of_ble_eq_true rfl) ⟨Nat.le_of_ble_eq_true rfl, Nat.le_of_ble_eq_true rfl⟩ ⟨Nat.le_refl _, Nat.le_refl _⟩ ?_ ?_
    · rintro r w ⟨rfl, rfl⟩; rfl
    rintro r w ⟨rfl, rfl⟩
    refine ev_nx (pc' := 55) (st' := [.int y1, .ref 0]) (w' := W_X5 (m_X5_thrown p1 u)) rfl rfl (by with_unfolding_all rfl) rfl rfl ?_
    refine ev_run (cs := []) (pc' := 56) (L' := [some (.ref 0), some (.int v1), some (.int v2)]) (st' := [.int v2, .int y1, .ref 0]) (w' := W_X5 (m_X5_thrown p1 u)) [] 1 (by with_unfolding_all rfl) trivial ?_
    obtain ⟨y2, h3, hR⟩ := lf_b hR
    refine ev_callV1 0 (t_X5_reportPart F (m_X5_thrown p1 u) y1 v2 _ h3) cv_X5_reportPart ml_X5_61 rfl rfl rfl (Nat.le_of_ble_eq_true rfl) (by with_unfolding_all rfl) (Nat.le_of_ble_eq_true rfl) ⟨Nat.le_of_ble_eq_true rfl, Nat.le_of_ble_eq_true rfl⟩ ⟨Nat.le_refl _, Nat.le_refl _⟩ ?_ ?_
    · rintro r w ⟨rfl, rfl⟩; rfl
    rintro r w ⟨rfl, rfl⟩
    refine ev_nx (pc' := 59) (st' := [.int y2]) (w' := W_X5 (m_X5_thrown p1 u)) rfl rfl (by with_unfolding_all rfl) rfl rfl ?_
    cases hR
    exact ev_exit ⟨_, _, rfl, ⟨rfl, Or.inl rfl⟩, ⟨rfl, rfl⟩, Nat.le_refl _, Nat.le_refl _⟩
  · replace hR := lf_f h1 hR
    refine ev_run (cs := []) (pc' := 59) (L' := [some (.ref 0), some (.int v1), some (.int v2)]) (st' := [.int 0]) (w' := W_X5 (m_X5_thrown p1 u)) [] 2 (by with_unfolding_all rfl) trivial ?_
    cases hR
    exact ev_exit ⟨_, _, rfl, ⟨rfl, Or.inl rfl⟩, ⟨rfl, rfl⟩, Nat.le_refl _, Nat.le_refl _⟩

def s_X5_report (F : Nat) (u : S_X5) (v1 : Int32) (v2 : Int32) : Option (Int32 × S_X5) := (s_X5_within F v1 0 (((a_X5_state u) (3 : Int32).toNatClampNeg) - 1)).bind fun y1 => (if y1 then ((s_X5_within F v2 0 4).bind fun y2 => (if y2 then (s_X5_report_b35 F u v1 v2 0) else (s_X5_report_b35 F u v1 v2 2))) else (s_X5_report_b35 F u v1 v2 1))
set_option maxHeartbeats 4000000 in
set_option maxRecDepth 20000 in
theorem t_X5_report (F : Nat) (u : S_X5) (v1 : Int32) (v2 : Int32) (x : (Int32 × S_X5)) (hR : s_X5_report F u v1 v2 = some x) : ev_A yX5_report mm_X5_report none [.ref 0, .int v1, .int v2] (W_X5 u) (fun r w => r = some (.int x.1) ∧ w = W_X5 x.2) := by
  unfold s_X5_report at hR
  refine ev_start ok_X5_report (by decide +kernel) rfl rfl (Nat.le_of_ble_eq_true rfl) ?_
  refine ev_run (cs := [lf_ix 3 20377]) (pc' := 11) (L' := [some (.ref 0), some (.int v1), some (.int v2)]) (st' := [.int (((a_X5_state u) (3 : Int32).toNatClampNeg) - 1), .int 0, .int v1, .ref 0]) (w' := W_X5 u) [] 9 (by with_unfolding_all rfl) (by show ¬ _; decide) ?_
  obtain ⟨y1, h1, hR⟩ := lf_b hR
  refine ev_callS1 0 (t_X5_within F v1 0 (((a_X5_state u) (3 : Int32).toNatClampNeg) - 1) _ h1) cs_X5_within ml_X5_46 rfl rfl rfl (Nat.le_of_ble_eq_true rfl) (by with_unfolding_all rfl) (Nat.le_of_ble_eq_true rfl) ⟨Nat.le_of_ble_eq_true rfl, Nat.le_of_ble_eq_true rfl⟩ ⟨Nat.le_refl _, Nat.le_refl _⟩ ?_ ?_
  · rintro r w ⟨rfl, rfl⟩; rfl
  rintro r w ⟨rfl, rfl⟩
  refine ev_nx (pc' := 14) (st' := [.int (ev_b y1), .ref 0]) (w' := W_X5 u) rfl rfl (by with_unfolding_all rfl) rfl rfl ?_
  refine ev_br rfl rfl (fun h2 => ?_) (fun h2 => ?_)
  · replace hR := lf_z1 h2 hR
    refine ev_run (cs := []) (pc' := 24) (L' := [some (.ref 0), some (.int v1), some (.int v2)]) (st' := [.int 4, .int 0, .int v2, .ref 0]) (w' := W_X5 u) [] 3 (by with_unfolding_all rfl) trivial ?_
    obtain ⟨y2, h3, hR⟩ := lf_b hR
    refine ev_callS1 0 (t_X5_within F v2 0 4 _ h3) cs_X5_within ml_X5_46 rfl rfl rfl (Nat.le_of_ble_eq_true rfl) (by with_unfolding_all rfl) (Nat.le_of_ble_eq_true rfl) ⟨Nat.le_of_ble_eq_true rfl, Nat.le_of_ble_eq_true rfl⟩ ⟨Nat.le_refl _, Nat.le_refl _⟩ ?_ ?_
    · rintro r w ⟨rfl, rfl⟩; rfl
    rintro r w ⟨rfl, rfl⟩
    refine ev_nx (pc' := 27) (st' := [.int (ev_b y2), .ref 0]) (w' := W_X5 u) rfl rfl (by with_unfolding_all rfl) rfl rfl ?_
    refine ev_br rfl rfl (fun h4 => ?_) (fun h4 => ?_)
    · replace hR := lf_z0 h4 hR
      refine ev_run (cs := []) (pc' := 35) (L' := [some (.ref 0), some (.int v1), some (.int v2)]) (st' := [.int 2, .ref 0]) (w' := W_X5 u) [] 1 (by with_unfolding_all rfl) trivial ?_
      exact ev_to2 (t_X5_report_b35 F u v1 v2 2 _ hR) ⟨rfl, rfl, rfl, trivial⟩ rfl rfl
    · replace hR := lf_z1 h4 hR
      refine ev_run (cs := []) (pc' := 35) (L' := [some (.ref 0), some (.int v1), some (.int v2)]) (st' := [.int 0, .ref 0]) (w' := W_X5 u) [] 2 (by with_unfolding_all rfl) trivial ?_
      exact ev_to2 (t_X5_report_b35 F u v1 v2 0 _ hR) ⟨rfl, rfl, rfl, trivial⟩ rfl rfl
  · replace hR := lf_z0 h2 hR
    refine ev_run (cs := []) (pc' := 35) (L' := [some (.ref 0), some (.int v1), some (.int v2)]) (st' := [.int 1, .ref 0]) (w' := W_X5 u) [] 2 (by with_unfolding_all rfl) trivial ?_
    exact ev_to2 (t_X5_report_b35 F u v1 v2 1 _ hR) ⟨rfl, rfl, rfl, trivial⟩ rfl rfl

def s_X5_ended_b22 (F : Nat) (u : S_X5) (v1 : Int32) (p1 : Int32) : Option (Int32 × S_X5) := if p1 ≤ 0 then (if lf_ix (353 + v1) 20377 then (some ((a_X5_state u) ((353 + v1).toNatClampNeg), m_X5_thrown p1 u)) else none) else (some (0, m_X5_thrown p1 u))
set_option maxHeartbeats 4000000 in
set_option maxRecDepth 20000 in
theorem t_X5_ended_b22 (F : Nat) (u : S_X5) (v1 : Int32) (p1 : Int32) (x : (Int32 × S_X5))  (hR : s_X5_ended_b22 F u v1 p1 = some x) : ev_V mm_X5_ended none (ev_XR mm_X5_ended (fun r w => r = some (.int x.1) ∧ w = W_X5 x.2)) 22 [some (.ref 0), some (.int v1)] [.int p1, .ref 0] (W_X5 u) 0 0 := by
  unfold s_X5_ended_b22 at hR
  refine ev_run (cs := []) (pc' := 29) (L' := [some (.ref 0), some (.int v1)]) (st' := [.int p1]) (w' := W_X5 (m_X5_thrown p1 u)) [] 3 (by with_unfolding_all rfl) trivial ?_
  refine ev_br rfl rfl (fun h1 => ?_) (fun h1 => ?_)
  · replace hR := lf_t h1 hR
    obtain ⟨h2, hR⟩ := lf_g hR
    refine ev_run (cs := [lf_ix (353 + v1) 20377]) (pc' := 46) (L' := [some (.ref 0), some (.int v1)]) (st' := [.int ((a_X5_state u) ((353 + v1).toNatClampNeg))]) (w' := W_X5 (m_X5_thrown p1 u)) [] 6 (by with_unfolding_all rfl) (h2) ?_
    cases hR
    exact ev_exit ⟨_, _, rfl, ⟨rfl, Or.inl rfl⟩, ⟨rfl, rfl⟩, Nat.le_refl _, Nat.le_refl _⟩
  · replace hR := lf_f h1 hR
    refine ev_run (cs := []) (pc' := 46) (L' := [some (.ref 0), some (.int v1)]) (st' := [.int 0]) (w' := W_X5 (m_X5_thrown p1 u)) [] 2 (by with_unfolding_all rfl) trivial ?_
    cases hR
    exact ev_exit ⟨_, _, rfl, ⟨rfl, Or.inl rfl⟩, ⟨rfl, rfl⟩, Nat.le_refl _, Nat.le_refl _⟩

def s_X5_ended (F : Nat) (u : S_X5) (v1 : Int32) : Option (Int32 × S_X5) := (s_X5_within F v1 0 (((a_X5_state u) (4 : Int32).toNatClampNeg) - 1)).bind fun y1 => (if y1 then (s_X5_ended_b22 F u v1 0) else (s_X5_ended_b22 F u v1 1))
set_option maxHeartbeats 4000000 in
set_option maxRecDepth 20000 in
theorem t_X5_ended (F : Nat) (u : S_X5) (v1 : Int32) (x : (Int32 × S_X5)) (hR : s_X5_ended F u v1 = some x) : ev_A yX5_ended mm_X5_ended none [.ref 0, .int v1] (W_X5 u) (fun r w => r = some (.int x.1) ∧ w = W_X5 x.2) := by
  unfold s_X5_ended at hR
  refine ev_start ok_X5_ended (by decide +kernel) rfl rfl (Nat.le_of_ble_eq_true rfl) ?_
  refine ev_run (cs := [lf_ix 4 20377]) (pc' := 11) (L' := [some (.ref 0), some (.int v1)]) (st' := [.int (((a_X5_state u) (4 : Int32).toNatClampNeg) - 1), .int 0, .int v1, .ref 0]) (w' := W_X5 u) [] 9 (by with_unfolding_all rfl) (by show ¬ _; decide) ?_
  obtain ⟨y1, h1, hR⟩ := lf_b hR
  refine ev_callS1 0 (t_X5_within F v1 0 (((a_X5_state u) (4 : Int32).toNatClampNeg) - 1) _ h1) cs_X5_within ml_X5_46 rfl rfl rfl (Nat.le_of_ble_eq_true rfl) (by with_unfolding_all rfl) (Nat.le_of_ble_eq_true rfl) ⟨Nat.le_of_ble_eq_true rfl, Nat.le_of_ble_eq_true rfl⟩ ⟨Nat.le_refl _, Nat.le_refl _⟩ ?_ ?_
  · rintro r w ⟨rfl, rfl⟩; rfl
  rintro r w ⟨rfl, rfl⟩
  refine ev_nx (pc' := 14) (st' := [.int (ev_b y1), .ref 0]) (w' := W_X5 u) rfl rfl (by with_unfolding_all rfl) rfl rfl ?_
  refine ev_br rfl rfl (fun h2 => ?_) (fun h2 => ?_)
  · replace hR := lf_z0 h2 hR
    refine ev_run (cs := []) (pc' := 22) (L' := [some (.ref 0), some (.int v1)]) (st' := [.int 1, .ref 0]) (w' := W_X5 u) [] 1 (by with_unfolding_all rfl) trivial ?_
    exact ev_to2 (t_X5_ended_b22 F u v1 1 _ hR) ⟨rfl, rfl, trivial⟩ rfl rfl
  · replace hR := lf_z1 h2 hR
    refine ev_run (cs := []) (pc' := 22) (L' := [some (.ref 0), some (.int v1)]) (st' := [.int 0, .ref 0]) (w' := W_X5 u) [] 2 (by with_unfolding_all rfl) trivial ?_
    exact ev_to2 (t_X5_ended_b22 F u v1 0 _ hR) ⟨rfl, rfl, trivial⟩ rfl rfl

def s_X5_living_l4 (F : Nat) (u : S_X5) : Nat → Int32 → Int32 → Option Int32
  | 0 => fun _ _ => none
  | n + 1 => fun v1 v2 => if ((a_X5_state u) (1 : Int32).toNatClampNeg) ≤ v2 then (some (v1)) else ((s_X5_part F u v2 0).bind fun y1 => (s_X5_living_l4 F u n (v1 + y1) (v2 + 1)))
theorem e_X5_living_l4 (F : Nat) (u : S_X5) (n : Nat) (v1 : Int32) (v2 : Int32) : s_X5_living_l4 F u (n + 1) v1 v2 = if ((a_X5_state u) (1 : Int32).toNatClampNeg) ≤ v2 then (some (v1)) else ((s_X5_part F u v2 0).bind fun y1 => (s_X5_living_l4 F u n (v1 + y1) (v2 + 1))) := rfl
set_option maxHeartbeats 4000000 in
set_option maxRecDepth 20000 in
theorem t_X5_living_l4 (F : Nat) (u : S_X5) (x : Int32)  : ∀ (n : Nat) (v1 : Int32) (v2 : Int32), s_X5_living_l4 F u n v1 v2 = some x → ev_V mm_X5_living none (ev_XR mm_X5_living (fun r w => r = some (.int x) ∧ w = W_X5 u)) 4 [some (.ref 0), some (.int v1), some (.int v2)] [] (W_X5 u) 0 0 := by
  intro n
  induction n with
  | zero => intro v1 v2 hR; cases hR
  | succ n hk4 =>
    intro v1 v2 hR
    unfold s_X5_living_l4 at hR
    refine ev_run (cs := [lf_ix 1 20377]) (pc' := 11) (L' := [some (.ref 0), some (.int v1), some (.int v2)]) (st' := [.int ((a_X5_state u) (1 : Int32).toNatClampNeg), .int v2]) (w' := W_X5 u) [] 5 (by with_unfolding_all rfl) (by show ¬ _; decide) ?_
    refine ev_br rfl rfl (fun h1 => ?_) (fun h1 => ?_)
    · replace hR := lf_t h1 hR
      refine ev_run (cs := []) (pc' := 30) (L' := [some (.ref 0), some (.int v1), some (.int v2)]) (st' := [.int v1]) (w' := W_X5 u) [] 1 (by with_unfolding_all rfl) trivial ?_
      cases hR
      exact ev_exit ⟨_, _, rfl, ⟨rfl, Or.inl rfl⟩, ⟨rfl, rfl⟩, Nat.le_refl _, Nat.le_refl _⟩
    · replace hR := lf_f h1 hR
      refine ev_run (cs := []) (pc' := 18) (L' := [some (.ref 0), some (.int v1), some (.int v2)]) (st' := [.int 0, .int v2, .ref 0, .int v1]) (w' := W_X5 u) [] 4 (by with_unfolding_all rfl) trivial ?_
      obtain ⟨y1, h2, hR⟩ := lf_b hR
      refine ev_callV1 0 (t_X5_part F u v2 0 _ h2) cv_X5_part ml_X5_50 rfl rfl rfl (Nat.le_of_ble_eq_true rfl) (by with_unfolding_all rfl) (Nat.le_of_ble_eq_true rfl) ⟨Nat.le_of_ble_eq_true rfl, Nat.le_of_ble_eq_true rfl⟩ ⟨Nat.le_refl _, Nat.le_refl _⟩ ?_ ?_
      · rintro r w ⟨rfl, rfl⟩; rfl
      rintro r w ⟨rfl, rfl⟩
      refine ev_nx (pc' := 21) (st' := [.int y1, .int v1]) (w' := W_X5 u) rfl rfl (by with_unfolding_all rfl) rfl rfl ?_
      refine ev_run (cs := []) (pc' := 4) (L' := [some (.ref 0), some (.int (v1 + y1)), some (.int (v2 + 1))]) (st' := []) (w' := W_X5 u) [] 4 (by with_unfolding_all rfl) trivial ?_
      exact ev_to2 (hk4 _ _ hR) ⟨rfl, rfl, rfl, trivial⟩ rfl rfl

def s_X5_living (F : Nat) (u : S_X5) : Option Int32 := s_X5_living_l4 F u F 0 0
set_option maxHeartbeats 4000000 in
set_option maxRecDepth 20000 in
theorem t_X5_living (F : Nat) (u : S_X5) (x : Int32) (hR : s_X5_living F u = some x) : ev_A yX5_living mm_X5_living none [.ref 0] (W_X5 u) (fun r w => r = some (.int x) ∧ w = W_X5 u) := by
  unfold s_X5_living at hR
  refine ev_start ok_X5_living (by decide +kernel) rfl rfl (Nat.le_of_ble_eq_true rfl) ?_
  refine ev_run (cs := []) (pc' := 4) (L' := [some (.ref 0), some (.int 0), some (.int 0)]) (st' := []) (w' := W_X5 u) [] 4 (by with_unfolding_all rfl) trivial ?_
  exact ev_to2 (t_X5_living_l4 F u _ F 0 0 hR) ⟨rfl, rfl, rfl, trivial⟩ rfl rfl

def s_X5_holding_l38 (F : Nat) (u : S_X5) : Nat → Int32 → Int32 → Option Int32
  | 0 => fun _ _ => none
  | n + 1 => fun v1 v2 => if (4 * ((a_X5_state u) (1 : Int32).toNatClampNeg)) ≤ v2 then (some (v1)) else (if lf_ix (257 + v2) 20377 then (if ((a_X5_state u) ((257 + v2).toNatClampNeg)) = (-1) then (s_X5_holding_l38 F u n (v1 + 0) (v2 + 1)) else (s_X5_holding_l38 F u n (v1 + 1) (v2 + 1))) else none)
theorem e_X5_holding_l38 (F : Nat) (u : S_X5) (n : Nat) (v1 : Int32) (v2 : Int32) : s_X5_holding_l38 F u (n + 1) v1 v2 = if (4 * ((a_X5_state u) (1 : Int32).toNatClampNeg)) ≤ v2 then (some (v1)) else (if lf_ix (257 + v2) 20377 then (if ((a_X5_state u) ((257 + v2).toNatClampNeg)) = (-1) then (s_X5_holding_l38 F u n (v1 + 0) (v2 + 1)) else (s_X5_holding_l38 F u n (v1 + 1) (v2 + 1))) else none) := rfl
set_option maxHeartbeats 4000000 in
set_option maxRecDepth 20000 in
theorem t_X5_holding_l38 (F : Nat) (u : S_X5) (x : Int32)  : ∀ (n : Nat) (v1 : Int32) (v2 : Int32), s_X5_holding_l38 F u n v1 v2 = some x → ev_V mm_X5_holding none (ev_XR mm_X5_holding (fun r w => r = some (.int x) ∧ w = W_X5 u)) 38 [some (.ref 0), some (.int v1), some (.int v2)] [] (W_X5 u) 0 0 := by
  intro n
  induction n with
  | zero => intro v1 v2 hR; cases hR
  | succ n hk38 =>
    intro v1 v2 hR
    unfold s_X5_holding_l38 at hR
    refine ev_run (cs := [lf_ix 1 20377]) (pc' := 47) (L' := [some (.ref 0), some (.int v1), some (.int v2)]) (st' := [.int (4 * ((a_X5_state u) (1 : Int32).toNatClampNeg)), .int v2]) (w' := W_X5 u) [] 7 (by with_unfolding_all rfl) (by show ¬ _; decide) ?_
    refine ev_br rfl rfl (fun h1 => ?_) (fun h1 => ?_)
    · replace hR := lf_t h1 hR
      refine ev_run (cs := []) (pc' := 79) (L' := [some (.ref 0), some (.int v1), some (.int v2)]) (st' := [.int v1]) (w' := W_X5 u) [] 1 (by with_unfolding_all rfl) trivial ?_
      cases hR
      exact ev_exit ⟨_, _, rfl, ⟨rfl, Or.inl rfl⟩, ⟨rfl, rfl⟩, Nat.le_refl _, Nat.le_refl _⟩
    · replace hR := lf_f h1 hR
      obtain ⟨h2, hR⟩ := lf_g hR
      refine ev_run (cs := [lf_ix (257 + v2) 20377]) (pc' := 62) (L' := [some (.ref 0), some (.int v1), some (.int v2)]) (st' := [.int (-1), .int ((a_X5_state u) ((257 + v2).toNatClampNeg)), .int v1]) (w' := W_X5 u) [] 8 (by with_unfolding_all rfl) (h2) ?_
      refine ev_br rfl rfl (fun h3 => ?_) (fun h3 => ?_)
      · replace hR := lf_f h3 hR
        refine ev_run (cs := []) (pc' := 38) (L' := [some (.ref 0), some (.int (v1 + 1)), some (.int (v2 + 1))]) (st' := []) (w' := W_X5 u) [] 5 (by with_unfolding_all rfl) trivial ?_
        exact ev_to2 (hk38 _ _ hR) ⟨rfl, rfl, rfl, trivial⟩ rfl rfl
      · replace hR := lf_t h3 hR
        refine ev_run (cs := []) (pc' := 38) (L' := [some (.ref 0), some (.int (v1 + 0)), some (.int (v2 + 1))]) (st' := []) (w' := W_X5 u) [] 6 (by with_unfolding_all rfl) trivial ?_
        exact ev_to2 (hk38 _ _ hR) ⟨rfl, rfl, rfl, trivial⟩ rfl rfl

def s_X5_holding_l4 (F : Nat) (u : S_X5) : Nat → Int32 → Int32 → Option Int32
  | 0 => fun _ _ => none
  | n + 1 => fun v1 v2 => if 4 ≤ v2 then (s_X5_holding_l38 F u F v1 0) else (if lf_ix (13 + v2) 20377 then (if ((a_X5_state u) ((13 + v2).toNatClampNeg)) = (-1) then (s_X5_holding_l4 F u n (v1 + 0) (v2 + 1)) else (s_X5_holding_l4 F u n (v1 + 1) (v2 + 1))) else none)
theorem e_X5_holding_l4 (F : Nat) (u : S_X5) (n : Nat) (v1 : Int32) (v2 : Int32) : s_X5_holding_l4 F u (n + 1) v1 v2 = if 4 ≤ v2 then (s_X5_holding_l38 F u F v1 0) else (if lf_ix (13 + v2) 20377 then (if ((a_X5_state u) ((13 + v2).toNatClampNeg)) = (-1) then (s_X5_holding_l4 F u n (v1 + 0) (v2 + 1)) else (s_X5_holding_l4 F u n (v1 + 1) (v2 + 1))) else none) := rfl
set_option maxHeartbeats 4000000 in
set_option maxRecDepth 20000 in
theorem t_X5_holding_l4 (F : Nat) (u : S_X5) (x : Int32)  : ∀ (n : Nat) (v1 : Int32) (v2 : Int32), s_X5_holding_l4 F u n v1 v2 = some x → ev_V mm_X5_holding none (ev_XR mm_X5_holding (fun r w => r = some (.int x) ∧ w = W_X5 u)) 4 [some (.ref 0), some (.int v1), some (.int v2)] [] (W_X5 u) 0 0 := by
  intro n
  induction n with
  | zero => intro v1 v2 hR; cases hR
  | succ n hk4 =>
    intro v1 v2 hR
    unfold s_X5_holding_l4 at hR
    refine ev_run (cs := []) (pc' := 6) (L' := [some (.ref 0), some (.int v1), some (.int v2)]) (st' := [.int 4, .int v2]) (w' := W_X5 u) [] 2 (by with_unfolding_all rfl) trivial ?_
    refine ev_br rfl rfl (fun h1 => ?_) (fun h1 => ?_)
    · replace hR := lf_t h1 hR
      refine ev_run (cs := []) (pc' := 38) (L' := [some (.ref 0), some (.int v1), some (.int 0)]) (st' := []) (w' := W_X5 u) [] 2 (by with_unfolding_all rfl) trivial ?_
      exact ev_to2 (t_X5_holding_l38 F u _ F v1 0 hR) ⟨rfl, rfl, rfl, trivial⟩ rfl rfl
    · replace hR := lf_f h1 hR
      obtain ⟨h2, hR⟩ := lf_g hR
      refine ev_run (cs := [lf_ix (13 + v2) 20377]) (pc' := 20) (L' := [some (.ref 0), some (.int v1), some (.int v2)]) (st' := [.int (-1), .int ((a_X5_state u) ((13 + v2).toNatClampNeg)), .int v1]) (w' := W_X5 u) [] 8 (by with_unfolding_all rfl) (h2) ?_
      refine ev_br rfl rfl (fun h3 => ?_) (fun h3 => ?_)
      · replace hR := lf_f h3 hR
        refine ev_run (cs := []) (pc' := 4) (L' := [some (.ref 0), some (.int (v1 + 1)), some (.int (v2 + 1))]) (st' := []) (w' := W_X5 u) [] 5 (by with_unfolding_all rfl) trivial ?_
        exact ev_to2 (hk4 _ _ hR) ⟨rfl, rfl, rfl, trivial⟩ rfl rfl
      · replace hR := lf_t h3 hR
        refine ev_run (cs := []) (pc' := 4) (L' := [some (.ref 0), some (.int (v1 + 0)), some (.int (v2 + 1))]) (st' := []) (w' := W_X5 u) [] 6 (by with_unfolding_all rfl) trivial ?_
        exact ev_to2 (hk4 _ _ hR) ⟨rfl, rfl, rfl, trivial⟩ rfl rfl

def s_X5_holding (F : Nat) (u : S_X5) : Option Int32 := s_X5_holding_l4 F u F 0 0
set_option maxHeartbeats 4000000 in
set_option maxRecDepth 20000 in
theorem t_X5_holding (F : Nat) (u : S_X5) (x : Int32) (hR : s_X5_holding F u = some x) : ev_A yX5_holding mm_X5_holding none [.ref 0] (W_X5 u) (fun r w => r = some (.int x) ∧ w = W_X5 u) := by
  unfold s_X5_holding at hR
  refine ev_start ok_X5_holding (by decide +kernel) rfl rfl (Nat.le_of_ble_eq_true rfl) ?_
  refine ev_run (cs := []) (pc' := 4) (L' := [some (.ref 0), some (.int 0), some (.int 0)]) (st' := []) (w' := W_X5 u) [] 4 (by with_unfolding_all rfl) trivial ?_
  exact ev_to2 (t_X5_holding_l4 F u _ F 0 0 hR) ⟨rfl, rfl, rfl, trivial⟩ rfl rfl

def s_X5_mistaken_l4 (F : Nat) (u : S_X5) : Nat → Int32 → Int32 → Option Int32
  | 0 => fun _ _ => none
  | n + 1 => fun v1 v2 => if ((a_X5_state u) (1 : Int32).toNatClampNeg) ≤ v2 then (some (v1)) else ((s_X5_lives F u v2).bind fun y1 => (if y1 then ((s_X5_part F u v2 2).bind fun y2 => ((s_X5_sumUnderWay F u v2).bind fun y3 => ((s_X5_truth F u v2).bind fun y4 => (if (y2 + y3) = y4 then (s_X5_mistaken_l4 F u n (v1 + 0) (v2 + 1)) else (s_X5_mistaken_l4 F u n (v1 + 1) (v2 + 1)))))) else (s_X5_mistaken_l4 F u n (v1 + 0) (v2 + 1))))
theorem e_X5_mistaken_l4 (F : Nat) (u : S_X5) (n : Nat) (v1 : Int32) (v2 : Int32) : s_X5_mistaken_l4 F u (n + 1) v1 v2 = if ((a_X5_state u) (1 : Int32).toNatClampNeg) ≤ v2 then (some (v1)) else ((s_X5_lives F u v2).bind fun y1 => (if y1 then ((s_X5_part F u v2 2).bind fun y2 => ((s_X5_sumUnderWay F u v2).bind fun y3 => ((s_X5_truth F u v2).bind fun y4 => (if (y2 + y3) = y4 then (s_X5_mistaken_l4 F u n (v1 + 0) (v2 + 1)) else (s_X5_mistaken_l4 F u n (v1 + 1) (v2 + 1)))))) else (s_X5_mistaken_l4 F u n (v1 + 0) (v2 + 1)))) := rfl
set_option maxHeartbeats 4000000 in
set_option maxRecDepth 20000 in
theorem t_X5_mistaken_l4 (F : Nat) (u : S_X5) (x : Int32)  : ∀ (n : Nat) (v1 : Int32) (v2 : Int32), s_X5_mistaken_l4 F u n v1 v2 = some x → ev_V mm_X5_mistaken none (ev_XR mm_X5_mistaken (fun r w => r = some (.int x) ∧ w = W_X5 u)) 4 [some (.ref 0), some (.int v1), some (.int v2)] [] (W_X5 u) 0 0 := by
  intro n
  induction n with
  | zero => intro v1 v2 hR; cases hR
  | succ n hk4 =>
    intro v1 v2 hR
    unfold s_X5_mistaken_l4 at hR
    refine ev_run (cs := [lf_ix 1 20377]) (pc' := 11) (L' := [some (.ref 0), some (.int v1), some (.int v2)]) (st' := [.int ((a_X5_state u) (1 : Int32).toNatClampNeg), .int v2]) (w' := W_X5 u) [] 5 (by with_unfolding_all rfl) (by show ¬ _; decide) ?_
    refine ev_br rfl rfl (fun h1 => ?_) (fun h1 => ?_)
    · replace hR := lf_t h1 hR
      refine ev_run (cs := []) (pc' := 57) (L' := [some (.ref 0), some (.int v1), some (.int v2)]) (st' := [.int v1]) (w' := W_X5 u) [] 1 (by with_unfolding_all rfl) trivial ?_
      cases hR
      exact ev_exit ⟨_, _, rfl, ⟨rfl, Or.inl rfl⟩, ⟨rfl, rfl⟩, Nat.le_refl _, Nat.le_refl _⟩
    · replace hR := lf_f h1 hR
      refine ev_run (cs := []) (pc' := 17) (L' := [some (.ref 0), some (.int v1), some (.int v2)]) (st' := [.int v2, .ref 0, .int v1]) (w' := W_X5 u) [] 3 (by with_unfolding_all rfl) trivial ?_
      obtain ⟨y1, h2, hR⟩ := lf_b hR
      refine ev_callV1 0 (t_X5_lives F u v2 _ h2) cv_X5_lives ml_X5_54 rfl rfl rfl (Nat.le_of_ble_eq_true rfl) (by with_unfolding_all rfl) (Nat.le_of_ble_eq_true rfl) ⟨Nat.le_of_ble_eq_true rfl, Nat.le_of_ble_eq_true rfl⟩ ⟨Nat.le_refl _, Nat.le_refl _⟩ ?_ ?_
      · rintro r w ⟨rfl, rfl⟩; rfl
      rintro r w ⟨rfl, rfl⟩
      refine ev_nx (pc' := 20) (st' := [.int (ev_b y1), .int v1]) (w' := W_X5 u) rfl rfl (by with_unfolding_all rfl) rfl rfl ?_
      refine ev_br rfl rfl (fun h3 => ?_) (fun h3 => ?_)
      · replace hR := lf_z0 h3 hR
        refine ev_run (cs := []) (pc' := 4) (L' := [some (.ref 0), some (.int (v1 + 0)), some (.int (v2 + 1))]) (st' := []) (w' := W_X5 u) [] 5 (by with_unfolding_all rfl) trivial ?_
        exact ev_to2 (hk4 _ _ hR) ⟨rfl, rfl, rfl, trivial⟩ rfl rfl
      · replace hR := lf_z1 h3 hR
        refine ev_run (cs := []) (pc' := 26) (L' := [some (.ref 0), some (.int v1), some (.int v2)]) (st' := [.int 2, .int v2, .ref 0, .int v1]) (w' := W_X5 u) [] 3 (by with_unfolding_all rfl) trivial ?_
        obtain ⟨y2, h4, hR⟩ := lf_b hR
        refine ev_callV1 0 (t_X5_part F u v2 2 _ h4) cv_X5_part ml_X5_50 rfl rfl rfl (Nat.le_of_ble_eq_true rfl) (by with_unfolding_all rfl) (Nat.le_of_ble_eq_true rfl) ⟨Nat.le_of_ble_eq_true rfl, Nat.le_of_ble_eq_true rfl⟩ ⟨Nat.le_refl _, Nat.le_refl _⟩ ?_ ?_
        · rintro r w ⟨rfl, rfl⟩; rfl
        rintro r w ⟨rfl, rfl⟩
        refine ev_nx (pc' := 29) (st' := [.int y2, .int v1]) (w' := W_X5 u) rfl rfl (by with_unfolding_all rfl) rfl rfl ?_
        refine ev_run (cs := []) (pc' := 31) (L' := [some (.ref 0), some (.int v1), some (.int v2)]) (st' := [.int v2, .ref 0, .int y2, .int v1]) (w' := W_X5 u) [] 2 (by with_unfolding_all rfl) trivial ?_
        obtain ⟨y3, h5, hR⟩ := lf_b hR
        refine ev_callV1 0 (t_X5_sumUnderWay F u v2 _ h5) cv_X5_sumUnderWay ml_X5_171 rfl rfl rfl (Nat.le_of_ble_eq_true rfl) (by with_unfolding_all rfl) (Nat.le_of_ble_eq_true rfl) ⟨Nat.le_of_ble_eq_true rfl, Nat.le_of_ble_eq_true rfl⟩ ⟨Nat.le_refl _, Nat.le_refl _⟩ ?_ ?_
        · rintro r w ⟨rfl, rfl⟩; rfl
        rintro r w ⟨rfl, rfl⟩
        refine ev_nx (pc' := 34) (st' := [.int y3, .int y2, .int v1]) (w' := W_X5 u) rfl rfl (by with_unfolding_all rfl) rfl rfl ?_
        refine ev_run (cs := []) (pc' := 37) (L' := [some (.ref 0), some (.int v1), some (.int v2)]) (st' := [.int v2, .ref 0, .int (y2 + y3), .int v1]) (w' := W_X5 u) [] 3 (by with_unfolding_all rfl) trivial ?_
        obtain ⟨y4, h6, hR⟩ := lf_b hR
        refine ev_callV1 0 (t_X5_truth F u v2 _ h6) cv_X5_truth ml_X5_91 rfl rfl rfl (Nat.le_of_ble_eq_true rfl) (by with_unfolding_all rfl) (Nat.le_of_ble_eq_true rfl) ⟨Nat.le_of_ble_eq_true rfl, Nat.le_of_ble_eq_true rfl⟩ ⟨Nat.le_refl _, Nat.le_refl _⟩ ?_ ?_
        · rintro r w ⟨rfl, rfl⟩; rfl
        rintro r w ⟨rfl, rfl⟩
        refine ev_nx (pc' := 40) (st' := [.int y4, .int (y2 + y3), .int v1]) (w' := W_X5 u) rfl rfl (by with_unfolding_all rfl) rfl rfl ?_
        refine ev_br rfl rfl (fun h7 => ?_) (fun h7 => ?_)
        · replace hR := lf_t h7 hR
          refine ev_run (cs := []) (pc' := 4) (L' := [some (.ref 0), some (.int (v1 + 0)), some (.int (v2 + 1))]) (st' := []) (w' := W_X5 u) [] 5 (by with_unfolding_all rfl) trivial ?_
          exact ev_to2 (hk4 _ _ hR) ⟨rfl, rfl, rfl, trivial⟩ rfl rfl
        · replace hR := lf_f h7 hR
          refine ev_run (cs := []) (pc' := 4) (L' := [some (.ref 0), some (.int (v1 + 1)), some (.int (v2 + 1))]) (st' := []) (w' := W_X5 u) [] 6 (by with_unfolding_all rfl) trivial ?_
          exact ev_to2 (hk4 _ _ hR) ⟨rfl, rfl, rfl, trivial⟩ rfl rfl

def s_X5_mistaken (F : Nat) (u : S_X5) : Option Int32 := s_X5_mistaken_l4 F u F 0 0
set_option maxHeartbeats 4000000 in
set_option maxRecDepth 20000 in
theorem t_X5_mistaken (F : Nat) (u : S_X5) (x : Int32) (hR : s_X5_mistaken F u = some x) : ev_A yX5_mistaken mm_X5_mistaken none [.ref 0] (W_X5 u) (fun r w => r = some (.int x) ∧ w = W_X5 u) := by
  unfold s_X5_mistaken at hR
  refine ev_start ok_X5_mistaken (by decide +kernel) rfl rfl (Nat.le_of_ble_eq_true rfl) ?_
  refine ev_run (cs := []) (pc' := 4) (L' := [some (.ref 0), some (.int 0), some (.int 0)]) (st' := []) (w' := W_X5 u) [] 4 (by with_unfolding_all rfl) trivial ?_
  exact ev_to2 (t_X5_mistaken_l4 F u _ F 0 0 hR) ⟨rfl, rfl, rfl, trivial⟩ rfl rfl

def s_X5_countOf (F : Nat) (u : S_X5) (v1 : Int32) : Option (Int32 × S_X5) := if v1 = 0 then (some ((a_X5_state u) (0 : Int32).toNatClampNeg, u)) else (if v1 = 1 then (some ((a_X5_state u) (1 : Int32).toNatClampNeg, u)) else (if v1 = 2 then ((s_X5_living F u).bind fun y1 => (some (y1, u))) else (if v1 = 3 then ((s_X5_findReached F u).bind fun y2 => (some (y2.1, y2.2))) else (if v1 = 4 then ((s_X5_suspects F u).bind fun y3 => (some (y3, u))) else (if v1 = 5 then (some ((a_X5_state u) (3 : Int32).toNatClampNeg, u)) else (if v1 = 6 then (some ((a_X5_state u) (2 : Int32).toNatClampNeg, u)) else (if v1 = 7 then (some ((a_X5_state u) (4 : Int32).toNatClampNeg, u)) else (if v1 = 8 then (some ((a_X5_state u) (5 : Int32).toNatClampNeg, u)) else (if v1 = 9 then (some ((a_X5_state u) (6 : Int32).toNatClampNeg, u)) else (if v1 = 10 then (some ((a_X5_state u) (7 : Int32).toNatClampNeg, u)) else (if v1 = 11 then ((s_X5_holding F u).bind fun y4 => (some (y4, u))) else (if v1 = 12 then ((s_X5_mistaken F u).bind fun y5 => (some (y5, u))) else (some (a_X5_savedMany u, u))))))))))))))
set_option maxHeartbeats 4000000 in
set_option maxRecDepth 20000 in
theorem t_X5_countOf (F : Nat) (u : S_X5) (v1 : Int32) (x : (Int32 × S_X5)) (hR : s_X5_countOf F u v1 = some x) : ev_A yX5_countOf mm_X5_countOf none [.ref 0, .int v1] (W_X5 u) (fun r w => r = some (.int x.1) ∧ w = W_X5 x.2) := by
  unfold s_X5_countOf at hR
  refine ev_start ok_X5_countOf (by decide +kernel) rfl rfl (Nat.le_of_ble_eq_true rfl) ?_
  refine ev_run (cs := []) (pc' := 1) (L' := [some (.ref 0), some (.int v1)]) (st' := [.int v1]) (w' := W_X5 u) [] 1 (by with_unfolding_all rfl) trivial ?_
  by_cases h1 : v1 = 0
  · replace hR := lf_t h1 hR
    refine ev_lit h1 (ev_run [] 1 rfl trivial ?_)
    refine ev_run (cs := [lf_ix 0 20377]) (pc' := 74) (L' := [some (.ref 0), some (.int v1)]) (st' := [.int ((a_X5_state u) (0 : Int32).toNatClampNeg)]) (w' := W_X5 u) [] 4 (by with_unfolding_all rfl) (by show ¬ _; decide) ?_
    cases hR
    exact ev_exit ⟨_, _, rfl, ⟨rfl, Or.inl rfl⟩, ⟨rfl, rfl⟩, Nat.le_refl _, Nat.le_refl _⟩
  replace hR := lf_f h1 hR
  by_cases h2 : v1 = 1
  · replace hR := lf_t h2 hR
    refine ev_lit h2 (ev_run [] 1 rfl trivial ?_)
    refine ev_run (cs := [lf_ix 1 20377]) (pc' := 81) (L' := [some (.ref 0), some (.int v1)]) (st' := [.int ((a_X5_state u) (1 : Int32).toNatClampNeg)]) (w' := W_X5 u) [] 4 (by with_unfolding_all rfl) (by show ¬ _; decide) ?_
    cases hR
    exact ev_exit ⟨_, _, rfl, ⟨rfl, Or.inl rfl⟩, ⟨rfl, rfl⟩, Nat.le_refl _, Nat.le_refl _⟩
  replace hR := lf_f h2 hR
  by_cases h3 : v1 = 2
  · replace hR := lf_t h3 hR
    refine ev_lit h3 (ev_run [] 1 rfl trivial ?_)
    refine ev_run (cs := []) (pc' := 83) (L' := [some (.ref 0), some (.int v1)]) (st' := [.ref 0]) (w' := W_X5 u) [] 1 (by with_unfolding_all rfl) trivial ?_
    obtain ⟨y1, h4, hR⟩ := lf_b hR
    refine ev_callV1 0 (t_X5_living F u _ h4) cv_X5_living ml_X5_221 rfl rfl rfl (Nat.le_of_ble_eq_true rfl) (by with_unfolding_all rfl) (Nat.le_of_ble_eq_true rfl) ⟨Nat.le_of_ble_eq_true rfl, Nat.le_of_ble_eq_true rfl⟩ ⟨Nat.le_refl _, Nat.le_refl _⟩ ?_ ?_
    · rintro r w ⟨rfl, rfl⟩; rfl
    rintro r w ⟨rfl, rfl⟩
    refine ev_nx (pc' := 86) (st' := [.int y1]) (w' := W_X5 u) rfl rfl (by with_unfolding_all rfl) rfl rfl ?_
    cases hR
    exact ev_exit ⟨_, _, rfl, ⟨rfl, Or.inl rfl⟩, ⟨rfl, rfl⟩, Nat.le_refl _, Nat.le_refl _⟩
  replace hR := lf_f h3 hR
  by_cases h5 : v1 = 3
  · replace hR := lf_t h5 hR
    refine ev_lit h5 (ev_run [] 1 rfl trivial ?_)
    refine ev_run (cs := []) (pc' := 88) (L' := [some (.ref 0), some (.int v1)]) (st' := [.ref 0]) (w' := W_X5 u) [] 1 (by with_unfolding_all rfl) trivial ?_
    obtain ⟨y2, h6, hR⟩ := lf_b hR
    refine ev_callV1 0 (t_X5_findReached F u _ h6) cv_X5_findReached ml_X5_212 rfl rfl rfl (Nat.le_of_ble_eq_true rfl) (by with_unfolding_all rfl) (Nat.le_of_ble_eq_true rfl) ⟨Nat.le_of_ble_eq_true rfl, Nat.le_of_ble_eq_true rfl⟩ ⟨Nat.le_refl _, Nat.le_refl _⟩ ?_ ?_
    · rintro r w ⟨rfl, rfl⟩; rfl
    rintro r w ⟨rfl, rfl⟩
    refine ev_nx (pc' := 91) (st' := [.int y2.1]) (w' := W_X5 y2.2) rfl rfl (by with_unfolding_all rfl) rfl rfl ?_
    cases hR
    exact ev_exit ⟨_, _, rfl, ⟨rfl, Or.inl rfl⟩, ⟨rfl, rfl⟩, Nat.le_refl _, Nat.le_refl _⟩
  replace hR := lf_f h5 hR
  by_cases h7 : v1 = 4
  · replace hR := lf_t h7 hR
    refine ev_lit h7 (ev_run [] 1 rfl trivial ?_)
    refine ev_run (cs := []) (pc' := 93) (L' := [some (.ref 0), some (.int v1)]) (st' := [.ref 0]) (w' := W_X5 u) [] 1 (by with_unfolding_all rfl) trivial ?_
    obtain ⟨y3, h8, hR⟩ := lf_b hR
    refine ev_callV1 0 (t_X5_suspects F u _ h8) cv_X5_suspects ml_X5_138 rfl rfl rfl (Nat.le_of_ble_eq_true rfl) (by with_unfolding_all rfl) (Nat.le_of_ble_eq_true rfl) ⟨Nat.le_of_ble_eq_true rfl, Nat.le_of_ble_eq_true rfl⟩ ⟨Nat.le_refl _, Nat.le_refl _⟩ ?_ ?_
    · rintro r w ⟨rfl, rfl⟩; rfl
    rintro r w ⟨rfl, rfl⟩
    refine ev_nx (pc' := 96) (st' := [.int y3]) (w' := W_X5 u) rfl rfl (by with_unfolding_all rfl) rfl rfl ?_
    cases hR
    exact ev_exit ⟨_, _, rfl, ⟨rfl, Or.inl rfl⟩, ⟨rfl, rfl⟩, Nat.le_refl _, Nat.le_refl _⟩
  replace hR := lf_f h7 hR
  by_cases h9 : v1 = 5
  · replace hR := lf_t h9 hR
    refine ev_lit h9 (ev_run [] 1 rfl trivial ?_)
    refine ev_run (cs := [lf_ix 3 20377]) (pc' := 103) (L' := [some (.ref 0), some (.int v1)]) (st' := [.int ((a_X5_state u) (3 : Int32).toNatClampNeg)]) (w' := W_X5 u) [] 4 (by with_unfolding_all rfl) (by show ¬ _; decide) ?_
    cases hR
    exact ev_exit ⟨_, _, rfl, ⟨rfl, Or.inl rfl⟩, ⟨rfl, rfl⟩, Nat.le_refl _, Nat.le_refl _⟩
  replace hR := lf_f h9 hR
  by_cases h10 : v1 = 6
  · replace hR := lf_t h10 hR
    refine ev_lit h10 (ev_run [] 1 rfl trivial ?_)
    refine ev_run (cs := [lf_ix 2 20377]) (pc' := 110) (L' := [some (.ref 0), some (.int v1)]) (st' := [.int ((a_X5_state u) (2 : Int32).toNatClampNeg)]) (w' := W_X5 u) [] 4 (by with_unfolding_all rfl) (by show ¬ _; decide) ?_
    cases hR
    exact ev_exit ⟨_, _, rfl, ⟨rfl, Or.inl rfl⟩, ⟨rfl, rfl⟩, Nat.le_refl _, Nat.le_refl _⟩
  replace hR := lf_f h10 hR
  by_cases h11 : v1 = 7
  · replace hR := lf_t h11 hR
    refine ev_lit h11 (ev_run [] 1 rfl trivial ?_)
    refine ev_run (cs := [lf_ix 4 20377]) (pc' := 117) (L' := [some (.ref 0), some (.int v1)]) (st' := [.int ((a_X5_state u) (4 : Int32).toNatClampNeg)]) (w' := W_X5 u) [] 4 (by with_unfolding_all rfl) (by show ¬ _; decide) ?_
    cases hR
    exact ev_exit ⟨_, _, rfl, ⟨rfl, Or.inl rfl⟩, ⟨rfl, rfl⟩, Nat.le_refl _, Nat.le_refl _⟩
  replace hR := lf_f h11 hR
  by_cases h12 : v1 = 8
  · replace hR := lf_t h12 hR
    refine ev_lit h12 (ev_run [] 1 rfl trivial ?_)
    refine ev_run (cs := [lf_ix 5 20377]) (pc' := 124) (L' := [some (.ref 0), some (.int v1)]) (st' := [.int ((a_X5_state u) (5 : Int32).toNatClampNeg)]) (w' := W_X5 u) [] 4 (by with_unfolding_all rfl) (by show ¬ _; decide) ?_
    cases hR
    exact ev_exit ⟨_, _, rfl, ⟨rfl, Or.inl rfl⟩, ⟨rfl, rfl⟩, Nat.le_refl _, Nat.le_refl _⟩
  replace hR := lf_f h12 hR
  by_cases h13 : v1 = 9
  · replace hR := lf_t h13 hR
    refine ev_lit h13 (ev_run [] 1 rfl trivial ?_)
    refine ev_run (cs := [lf_ix 6 20377]) (pc' := 132) (L' := [some (.ref 0), some (.int v1)]) (st' := [.int ((a_X5_state u) (6 : Int32).toNatClampNeg)]) (w' := W_X5 u) [] 4 (by with_unfolding_all rfl) (by show ¬ _; decide) ?_
    cases hR
    exact ev_exit ⟨_, _, rfl, ⟨rfl, Or.inl rfl⟩, ⟨rfl, rfl⟩, Nat.le_refl _, Nat.le_refl _⟩
  replace hR := lf_f h13 hR
  by_cases h14 : v1 = 10
  · replace hR := lf_t h14 hR
    refine ev_lit h14 (ev_run [] 1 rfl trivial ?_)
    refine ev_run (cs := [lf_ix 7 20377]) (pc' := 140) (L' := [some (.ref 0), some (.int v1)]) (st' := [.int ((a_X5_state u) (7 : Int32).toNatClampNeg)]) (w' := W_X5 u) [] 4 (by with_unfolding_all rfl) (by show ¬ _; decide) ?_
    cases hR
    exact ev_exit ⟨_, _, rfl, ⟨rfl, Or.inl rfl⟩, ⟨rfl, rfl⟩, Nat.le_refl _, Nat.le_refl _⟩
  replace hR := lf_f h14 hR
  by_cases h15 : v1 = 11
  · replace hR := lf_t h15 hR
    refine ev_lit h15 (ev_run [] 1 rfl trivial ?_)
    refine ev_run (cs := []) (pc' := 142) (L' := [some (.ref 0), some (.int v1)]) (st' := [.ref 0]) (w' := W_X5 u) [] 1 (by with_unfolding_all rfl) trivial ?_
    obtain ⟨y4, h16, hR⟩ := lf_b hR
    refine ev_callV1 0 (t_X5_holding F u _ h16) cv_X5_holding ml_X5_224 rfl rfl rfl (Nat.le_of_ble_eq_true rfl) (by with_unfolding_all rfl) (Nat.le_of_ble_eq_true rfl) ⟨Nat.le_of_ble_eq_true rfl, Nat.le_of_ble_eq_true rfl⟩ ⟨Nat.le_refl _, Nat.le_refl _⟩ ?_ ?_
    · rintro r w ⟨rfl, rfl⟩; rfl
    rintro r w ⟨rfl, rfl⟩
    refine ev_nx (pc' := 145) (st' := [.int y4]) (w' := W_X5 u) rfl rfl (by with_unfolding_all rfl) rfl rfl ?_
    cases hR
    exact ev_exit ⟨_, _, rfl, ⟨rfl, Or.inl rfl⟩, ⟨rfl, rfl⟩, Nat.le_refl _, Nat.le_refl _⟩
  replace hR := lf_f h15 hR
  by_cases h17 : v1 = 12
  · replace hR := lf_t h17 hR
    refine ev_lit h17 (ev_run [] 1 rfl trivial ?_)
    refine ev_run (cs := []) (pc' := 147) (L' := [some (.ref 0), some (.int v1)]) (st' := [.ref 0]) (w' := W_X5 u) [] 1 (by with_unfolding_all rfl) trivial ?_
    obtain ⟨y5, h18, hR⟩ := lf_b hR
    refine ev_callV1 0 (t_X5_mistaken F u _ h18) cv_X5_mistaken ml_X5_227 rfl rfl rfl (Nat.le_of_ble_eq_true rfl) (by with_unfolding_all rfl) (Nat.le_of_ble_eq_true rfl) ⟨Nat.le_of_ble_eq_true rfl, Nat.le_of_ble_eq_true rfl⟩ ⟨Nat.le_refl _, Nat.le_refl _⟩ ?_ ?_
    · rintro r w ⟨rfl, rfl⟩; rfl
    rintro r w ⟨rfl, rfl⟩
    refine ev_nx (pc' := 150) (st' := [.int y5]) (w' := W_X5 u) rfl rfl (by with_unfolding_all rfl) rfl rfl ?_
    cases hR
    exact ev_exit ⟨_, _, rfl, ⟨rfl, Or.inl rfl⟩, ⟨rfl, rfl⟩, Nat.le_refl _, Nat.le_refl _⟩
  replace hR := lf_f h17 hR
  refine ev_tso 151 rfl ?_ rfl ?_
  · have k0 := lf_nt h1; have k1 := lf_nt h2; have k2 := lf_nt h3; have k3 := lf_nt h5; have k4 := lf_nt h7; have k5 := lf_nt h9; have k6 := lf_nt h10; have k7 := lf_nt h11; have k8 := lf_nt h12; have k9 := lf_nt h13; have k10 := lf_nt h14; have k11 := lf_nt h15; have k12 := lf_nt h17; rw [show (0 : Int32).toInt = 0 from rfl] at k0; rw [show (1 : Int32).toInt = 1 from rfl] at k1; rw [show (2 : Int32).toInt = 2 from rfl] at k2; rw [show (3 : Int32).toInt = 3 from rfl] at k3; rw [show (4 : Int32).toInt = 4 from rfl] at k4; rw [show (5 : Int32).toInt = 5 from rfl] at k5; rw [show (6 : Int32).toInt = 6 from rfl] at k6; rw [show (7 : Int32).toInt = 7 from rfl] at k7; rw [show (8 : Int32).toInt = 8 from rfl] at k8; rw [show (9 : Int32).toInt = 9 from rfl] at k9; rw [show (10 : Int32).toInt = 10 from rfl] at k10; rw [show (11 : Int32).toInt = 11 from rfl] at k11; rw [show (12 : Int32).toInt = 12 from rfl] at k12; omega
  refine ev_run (cs := []) (pc' := 155) (L' := [some (.ref 0), some (.int v1)]) (st' := [.int (a_X5_savedMany u)]) (w' := W_X5 u) [] 2 (by with_unfolding_all rfl) trivial ?_
  cases hR
  exact ev_exit ⟨_, _, rfl, ⟨rfl, Or.inl rfl⟩, ⟨rfl, rfl⟩, Nat.le_refl _, Nat.le_refl _⟩

def s_X5_count_b16 (F : Nat) (u : S_X5) (v1 : Int32) (p1 : Int32) : Option (Int32 × S_X5) := if p1 ≤ 0 then ((s_X5_countOf F (m_X5_thrown p1 u) v1).bind fun y1 => (some (y1.1, y1.2))) else (some (0, m_X5_thrown p1 u))
set_option maxHeartbeats 4000000 in
set_option maxRecDepth 20000 in
theorem t_X5_count_b16 (F : Nat) (u : S_X5) (v1 : Int32) (p1 : Int32) (x : (Int32 × S_X5))  (hR : s_X5_count_b16 F u v1 p1 = some x) : ev_V mm_X5_count none (ev_XR mm_X5_count (fun r w => r = some (.int x.1) ∧ w = W_X5 x.2)) 16 [some (.ref 0), some (.int v1)] [.int p1, .ref 0] (W_X5 u) 0 0 := by
  unfold s_X5_count_b16 at hR
  refine ev_run (cs := []) (pc' := 23) (L' := [some (.ref 0), some (.int v1)]) (st' := [.int p1]) (w' := W_X5 (m_X5_thrown p1 u)) [] 3 (by with_unfolding_all rfl) trivial ?_
  refine ev_br rfl rfl (fun h1 => ?_) (fun h1 => ?_)
  · replace hR := lf_t h1 hR
    refine ev_run (cs := []) (pc' := 32) (L' := [some (.ref 0), some (.int v1)]) (st' := [.int v1, .ref 0]) (w' := W_X5 (m_X5_thrown p1 u)) [] 2 (by with_unfolding_all rfl) trivial ?_
    obtain ⟨y1, h2, hR⟩ := lf_b hR
    refine ev_callV1 0 (t_X5_countOf F (m_X5_thrown p1 u) v1 _ h2) cv_X5_countOf ml_X5_230 rfl rfl rfl (Nat.le_of_ble_eq_true rfl) (by with_unfolding_all rfl) (Nat.le_of_ble_eq_true rfl) ⟨Nat.le_of_ble_eq_true rfl, Nat.le_of_ble_eq_true rfl⟩ ⟨Nat.le_refl _, Nat.le_refl _⟩ ?_ ?_
    · rintro r w ⟨rfl, rfl⟩; rfl
    rintro r w ⟨rfl, rfl⟩
    refine ev_nx (pc' := 35) (st' := [.int y1.1]) (w' := W_X5 y1.2) rfl rfl (by with_unfolding_all rfl) rfl rfl ?_
    cases hR
    exact ev_exit ⟨_, _, rfl, ⟨rfl, Or.inl rfl⟩, ⟨rfl, rfl⟩, Nat.le_refl _, Nat.le_refl _⟩
  · replace hR := lf_f h1 hR
    refine ev_run (cs := []) (pc' := 35) (L' := [some (.ref 0), some (.int v1)]) (st' := [.int 0]) (w' := W_X5 (m_X5_thrown p1 u)) [] 2 (by with_unfolding_all rfl) trivial ?_
    cases hR
    exact ev_exit ⟨_, _, rfl, ⟨rfl, Or.inl rfl⟩, ⟨rfl, rfl⟩, Nat.le_refl _, Nat.le_refl _⟩

def s_X5_count (F : Nat) (u : S_X5) (v1 : Int32) : Option (Int32 × S_X5) := (s_X5_within F v1 0 13).bind fun y1 => (if y1 then (s_X5_count_b16 F u v1 0) else (s_X5_count_b16 F u v1 1))
set_option maxHeartbeats 4000000 in
set_option maxRecDepth 20000 in
theorem t_X5_count (F : Nat) (u : S_X5) (v1 : Int32) (x : (Int32 × S_X5)) (hR : s_X5_count F u v1 = some x) : ev_A yX5_count mm_X5_count none [.ref 0, .int v1] (W_X5 u) (fun r w => r = some (.int x.1) ∧ w = W_X5 x.2) := by
  unfold s_X5_count at hR
  refine ev_start ok_X5_count (by decide +kernel) rfl rfl (Nat.le_of_ble_eq_true rfl) ?_
  refine ev_run (cs := []) (pc' := 5) (L' := [some (.ref 0), some (.int v1)]) (st' := [.int 13, .int 0, .int v1, .ref 0]) (w' := W_X5 u) [] 4 (by with_unfolding_all rfl) trivial ?_
  obtain ⟨y1, h1, hR⟩ := lf_b hR
  refine ev_callS1 0 (t_X5_within F v1 0 13 _ h1) cs_X5_within ml_X5_46 rfl rfl rfl (Nat.le_of_ble_eq_true rfl) (by with_unfolding_all rfl) (Nat.le_of_ble_eq_true rfl) ⟨Nat.le_of_ble_eq_true rfl, Nat.le_of_ble_eq_true rfl⟩ ⟨Nat.le_refl _, Nat.le_refl _⟩ ?_ ?_
  · rintro r w ⟨rfl, rfl⟩; rfl
  rintro r w ⟨rfl, rfl⟩
  refine ev_nx (pc' := 8) (st' := [.int (ev_b y1), .ref 0]) (w' := W_X5 u) rfl rfl (by with_unfolding_all rfl) rfl rfl ?_
  refine ev_br rfl rfl (fun h2 => ?_) (fun h2 => ?_)
  · replace hR := lf_z0 h2 hR
    refine ev_run (cs := []) (pc' := 16) (L' := [some (.ref 0), some (.int v1)]) (st' := [.int 1, .ref 0]) (w' := W_X5 u) [] 1 (by with_unfolding_all rfl) trivial ?_
    exact ev_to2 (t_X5_count_b16 F u v1 1 _ hR) ⟨rfl, rfl, trivial⟩ rfl rfl
  · replace hR := lf_z1 h2 hR
    refine ev_run (cs := []) (pc' := 16) (L' := [some (.ref 0), some (.int v1)]) (st' := [.int 0, .ref 0]) (w' := W_X5 u) [] 2 (by with_unfolding_all rfl) trivial ?_
    exact ev_to2 (t_X5_count_b16 F u v1 0 _ hR) ⟨rfl, rfl, trivial⟩ rfl rfl

def s_X5_setting_b13 (F : Nat) (u : S_X5) (v1 : Int32) (p1 : Int32) : Option (Int32 × S_X5) := if p1 ≤ 0 then (if lf_ix (8 + v1) 20377 then (some ((a_X5_state u) ((8 + v1).toNatClampNeg), m_X5_thrown p1 u)) else none) else (some (0, m_X5_thrown p1 u))
set_option maxHeartbeats 4000000 in
set_option maxRecDepth 20000 in
theorem t_X5_setting_b13 (F : Nat) (u : S_X5) (v1 : Int32) (p1 : Int32) (x : (Int32 × S_X5))  (hR : s_X5_setting_b13 F u v1 p1 = some x) : ev_V mm_X5_setting none (ev_XR mm_X5_setting (fun r w => r = some (.int x.1) ∧ w = W_X5 x.2)) 13 [some (.ref 0), some (.int v1)] [.int p1, .ref 0] (W_X5 u) 0 0 := by
  unfold s_X5_setting_b13 at hR
  refine ev_run (cs := []) (pc' := 20) (L' := [some (.ref 0), some (.int v1)]) (st' := [.int p1]) (w' := W_X5 (m_X5_thrown p1 u)) [] 3 (by with_unfolding_all rfl) trivial ?_
  refine ev_br rfl rfl (fun h1 => ?_) (fun h1 => ?_)
  · replace hR := lf_t h1 hR
    obtain ⟨h2, hR⟩ := lf_g hR
    refine ev_run (cs := [lf_ix (8 + v1) 20377]) (pc' := 36) (L' := [some (.ref 0), some (.int v1)]) (st' := [.int ((a_X5_state u) ((8 + v1).toNatClampNeg))]) (w' := W_X5 (m_X5_thrown p1 u)) [] 6 (by with_unfolding_all rfl) (h2) ?_
    cases hR
    exact ev_exit ⟨_, _, rfl, ⟨rfl, Or.inl rfl⟩, ⟨rfl, rfl⟩, Nat.le_refl _, Nat.le_refl _⟩
  · replace hR := lf_f h1 hR
    refine ev_run (cs := []) (pc' := 36) (L' := [some (.ref 0), some (.int v1)]) (st' := [.int 0]) (w' := W_X5 (m_X5_thrown p1 u)) [] 2 (by with_unfolding_all rfl) trivial ?_
    cases hR
    exact ev_exit ⟨_, _, rfl, ⟨rfl, Or.inl rfl⟩, ⟨rfl, rfl⟩, Nat.le_refl _, Nat.le_refl _⟩

def s_X5_setting (F : Nat) (u : S_X5) (v1 : Int32) : Option (Int32 × S_X5) := (s_X5_isSetting F v1).bind fun y1 => (if y1 then (s_X5_setting_b13 F u v1 0) else (s_X5_setting_b13 F u v1 1))
set_option maxHeartbeats 4000000 in
set_option maxRecDepth 20000 in
theorem t_X5_setting (F : Nat) (u : S_X5) (v1 : Int32) (x : (Int32 × S_X5)) (hR : s_X5_setting F u v1 = some x) : ev_A yX5_setting mm_X5_setting none [.ref 0, .int v1] (W_X5 u) (fun r w => r = some (.int x.1) ∧ w = W_X5 x.2) := by
  unfold s_X5_setting at hR
  refine ev_start ok_X5_setting (by decide +kernel) rfl rfl (Nat.le_of_ble_eq_true rfl) ?_
  refine ev_run (cs := []) (pc' := 2) (L' := [some (.ref 0), some (.int v1)]) (st' := [.int v1, .ref 0]) (w' := W_X5 u) [] 2 (by with_unfolding_all rfl) trivial ?_
  obtain ⟨y1, h1, hR⟩ := lf_b hR
  refine ev_callS1 0 (t_X5_isSetting F v1 _ h1) cs_X5_isSetting ml_X5_141 rfl rfl rfl (Nat.le_of_ble_eq_true rfl) (by with_unfolding_all rfl) (Nat.le_of_ble_eq_true rfl) ⟨Nat.le_of_ble_eq_true rfl, Nat.le_of_ble_eq_true rfl⟩ ⟨Nat.le_refl _, Nat.le_refl _⟩ ?_ ?_
  · rintro r w ⟨rfl, rfl⟩; rfl
  rintro r w ⟨rfl, rfl⟩
  refine ev_nx (pc' := 5) (st' := [.int (ev_b y1), .ref 0]) (w' := W_X5 u) rfl rfl (by with_unfolding_all rfl) rfl rfl ?_
  refine ev_br rfl rfl (fun h2 => ?_) (fun h2 => ?_)
  · replace hR := lf_z0 h2 hR
    refine ev_run (cs := []) (pc' := 13) (L' := [some (.ref 0), some (.int v1)]) (st' := [.int 1, .ref 0]) (w' := W_X5 u) [] 1 (by with_unfolding_all rfl) trivial ?_
    exact ev_to2 (t_X5_setting_b13 F u v1 1 _ hR) ⟨rfl, rfl, trivial⟩ rfl rfl
  · replace hR := lf_z1 h2 hR
    refine ev_run (cs := []) (pc' := 13) (L' := [some (.ref 0), some (.int v1)]) (st' := [.int 0, .ref 0]) (w' := W_X5 u) [] 2 (by with_unfolding_all rfl) trivial ?_
    exact ev_to2 (t_X5_setting_b13 F u v1 0 _ hR) ⟨rfl, rfl, trivial⟩ rfl rfl

def s_X5_wouldPass (F : Nat) (u : S_X5) (v1 : Int32) (v2 : Int32) : Option (Int32 × S_X5) := (s_X5_copy F 20377 20377 (a_X5_state u) (a_X5_kept u) 0 0).bind fun y1 => ((s_X5_passed F (m_X5_kept y1 u) v1).bind fun y2 => ((s_X5_living F y2.2).bind fun y3 => ((s_X5_findReached F y2.2).bind fun y4 => ((s_X5_copy F 20377 20377 (a_X5_kept y4.2) (a_X5_state y4.2) 0 0).bind fun y5 => (if v2 = 0 then (some (y2.1, m_X5_state y5 y4.2)) else (if v2 = 1 then (some (((a_X5_state y2.2) (6 : Int32).toNatClampNeg) - ((a_X5_kept y2.2) (6 : Int32).toNatClampNeg), m_X5_state y5 y4.2)) else (if v2 = 2 then (some ((a_X5_state y2.2) (3 : Int32).toNatClampNeg, m_X5_state y5 y4.2)) else (some (y3 - y4.1, m_X5_state y5 y4.2)))))))))
set_option maxHeartbeats 4000000 in
set_option maxRecDepth 20000 in
theorem t_X5_wouldPass (F : Nat) (u : S_X5) (v1 : Int32) (v2 : Int32) (x : (Int32 × S_X5)) (hR : s_X5_wouldPass F u v1 v2 = some x) : ev_A yX5_wouldPass mm_X5_wouldPass none [.ref 0, .int v1, .int v2] (W_X5 u) (fun r w => r = some (.int x.1) ∧ w = W_X5 x.2) := by
  unfold s_X5_wouldPass at hR
  refine ev_start ok_X5_wouldPass (by decide +kernel) rfl rfl (Nat.le_of_ble_eq_true rfl) ?_
  refine ev_run (cs := []) (pc' := 10) (L' := [some (.ref 0), some (.int v1), some (.int v2), none, none, none, none]) (st' := [.int 0, .ref 2, .int 0, .ref 1]) (w' := W_X5 u) [] 6 (by with_unfolding_all rfl) trivial ?_
  obtain ⟨y1, h1, hR⟩ := lf_b hR
  refine ev_callS2 1 1 2 (t_X5_copy F 20377 20377 (a_X5_state u) (a_X5_kept u) 0 0 _ h1) cs_X5_copy ml_X5_42 rfl rfl rfl rfl (Nat.le_of_ble_eq_true rfl) (Nat.le_of_ble_eq_true rfl) (by decide) (by with_unfolding_all rfl) (Nat.le_of_ble_eq_true rfl) ⟨Nat.le_of_ble_eq_true rfl, Nat.le_of_ble_eq_true rfl⟩ ⟨Nat.le_refl _, Nat.le_refl _⟩ ?_ ?_
  · rintro r w ⟨rfl, rfl⟩; rfl
  rintro r w ⟨rfl, rfl⟩
  refine ev_nx (pc' := 13) (st' := []) (w' := W_X5 (m_X5_kept y1 u)) rfl rfl (by with_unfolding_all rfl) rfl rfl ?_
  refine ev_run (cs := []) (pc' := 15) (L' := [some (.ref 0), some (.int v1), some (.int v2), none, none, none, none]) (st' := [.int v1, .ref 0]) (w' := W_X5 (m_X5_kept y1 u)) [] 2 (by with_unfolding_all rfl) trivial ?_
  obtain ⟨y2, h2, hR⟩ := lf_b hR
  refine ev_callV1 0 (t_X5_passed F (m_X5_kept y1 u) v1 _ h2) cv_X5_passed ml_X5_168 rfl rfl rfl (Nat.le_of_ble_eq_true rfl) (by with_unfolding_all rfl) (Nat.le_of_ble_eq_true rfl) ⟨Nat.le_of_ble_eq_true rfl, Nat.le_of_ble_eq_true rfl⟩ ⟨Nat.le_refl _, Nat.le_refl _⟩ ?_ ?_
  · rintro r w ⟨rfl, rfl⟩; rfl
  rintro r w ⟨rfl, rfl⟩
  refine ev_nx (pc' := 18) (st' := [.int y2.1]) (w' := W_X5 y2.2) rfl rfl (by with_unfolding_all rfl) rfl rfl ?_
  refine ev_run (cs := [lf_ix 6 20377, lf_ix 6 20377]) (pc' := 37) (L' := [some (.ref 0), some (.int v1), some (.int v2), some (.int y2.1), some (.int (((a_X5_state y2.2) (6 : Int32).toNatClampNeg) - ((a_X5_kept y2.2) (6 : Int32).toNatClampNeg))), none, none]) (st' := [.ref 0]) (w' := W_X5 y2.2) [] 12 (by with_unfolding_all rfl) ⟨by show ¬ _; decide, by show ¬ _; decide⟩ ?_
  refine ev_run (cs := [lf_ix 3 20377]) (pc' := 45) (L' := [some (.ref 0), some (.int v1), some (.int v2), some (.int y2.1), some (.int (((a_X5_state y2.2) (6 : Int32).toNatClampNeg) - ((a_X5_kept y2.2) (6 : Int32).toNatClampNeg))), some (.int ((a_X5_state y2.2) (3 : Int32).toNatClampNeg)), none]) (st' := [.ref 0]) (w' := W_X5 y2.2) [] 5 (by with_unfolding_all rfl) (by show ¬ _; decide) ?_
  obtain ⟨y3, h3, hR⟩ := lf_b hR
  refine ev_callV1 0 (t_X5_living F y2.2 _ h3) cv_X5_living ml_X5_221 rfl rfl rfl (Nat.le_of_ble_eq_true rfl) (by with_unfolding_all rfl) (Nat.le_of_ble_eq_true rfl) ⟨Nat.le_of_ble_eq_true rfl, Nat.le_of_ble_eq_true rfl⟩ ⟨Nat.le_refl _, Nat.le_refl _⟩ ?_ ?_
  · rintro r w ⟨rfl, rfl⟩; rfl
  rintro r w ⟨rfl, rfl⟩
  refine ev_nx (pc' := 48) (st' := [.int y3]) (w' := W_X5 y2.2) rfl rfl (by with_unfolding_all rfl) rfl rfl ?_
  refine ev_run (cs := []) (pc' := 49) (L' := [some (.ref 0), some (.int v1), some (.int v2), some (.int y2.1), some (.int (((a_X5_state y2.2) (6 : Int32).toNatClampNeg) - ((a_X5_kept y2.2) (6 : Int32).toNatClampNeg))), some (.int ((a_X5_state y2.2) (3 : Int32).toNatClampNeg)), none]) (st' := [.ref 0, .int y3]) (w' := W_X5 y2.2) [] 1 (by with_unfolding_all rfl) trivial ?_
  obtain ⟨y4, h4, hR⟩ := lf_b hR
  refine ev_callV1 0 (t_X5_findReached F y2.2 _ h4) cv_X5_findReached ml_X5_212 rfl rfl rfl (Nat.le_of_ble_eq_true rfl) (by with_unfolding_all rfl) (Nat.le_of_ble_eq_true rfl) ⟨Nat.le_of_ble_eq_true rfl, Nat.le_of_ble_eq_true rfl⟩ ⟨Nat.le_refl _, Nat.le_refl _⟩ ?_ ?_
  · rintro r w ⟨rfl, rfl⟩; rfl
  rintro r w ⟨rfl, rfl⟩
  refine ev_nx (pc' := 52) (st' := [.int y4.1, .int y3]) (w' := W_X5 y4.2) rfl rfl (by with_unfolding_all rfl) rfl rfl ?_
  refine ev_run (cs := []) (pc' := 65) (L' := [some (.ref 0), some (.int v1), some (.int v2), some (.int y2.1), some (.int (((a_X5_state y2.2) (6 : Int32).toNatClampNeg) - ((a_X5_kept y2.2) (6 : Int32).toNatClampNeg))), some (.int ((a_X5_state y2.2) (3 : Int32).toNatClampNeg)), some (.int (y3 - y4.1))]) (st' := [.int 0, .ref 1, .int 0, .ref 2]) (w' := W_X5 y4.2) [] 8 (by with_unfolding_all rfl) trivial ?_
  obtain ⟨y5, h5, hR⟩ := lf_b hR
  refine ev_callS2 1 2 1 (t_X5_copy F 20377 20377 (a_X5_kept y4.2) (a_X5_state y4.2) 0 0 _ h5) cs_X5_copy ml_X5_42 rfl rfl rfl rfl (Nat.le_of_ble_eq_true rfl) (Nat.le_of_ble_eq_true rfl) (by decide) (by with_unfolding_all rfl) (Nat.le_of_ble_eq_true rfl) ⟨Nat.le_of_ble_eq_true rfl, Nat.le_of_ble_eq_true rfl⟩ ⟨Nat.le_refl _, Nat.le_refl _⟩ ?_ ?_
  · rintro r w ⟨rfl, rfl⟩; rfl
  rintro r w ⟨rfl, rfl⟩
  refine ev_nx (pc' := 68) (st' := []) (w' := W_X5 (m_X5_state y5 y4.2)) rfl rfl (by with_unfolding_all rfl) rfl rfl ?_
  refine ev_run (cs := []) (pc' := 69) (L' := [some (.ref 0), some (.int v1), some (.int v2), some (.int y2.1), some (.int (((a_X5_state y2.2) (6 : Int32).toNatClampNeg) - ((a_X5_kept y2.2) (6 : Int32).toNatClampNeg))), some (.int ((a_X5_state y2.2) (3 : Int32).toNatClampNeg)), some (.int (y3 - y4.1))]) (st' := [.int v2]) (w' := W_X5 (m_X5_state y5 y4.2)) [] 1 (by with_unfolding_all rfl) trivial ?_
  refine ev_br rfl rfl (fun h6 => ?_) (fun h6 => ?_)
  · replace hR := lf_f h6 hR
    refine ev_run (cs := []) (pc' := 78) (L' := [some (.ref 0), some (.int v1), some (.int v2), some (.int y2.1), some (.int (((a_X5_state y2.2) (6 : Int32).toNatClampNeg) - ((a_X5_kept y2.2) (6 : Int32).toNatClampNeg))), some (.int ((a_X5_state y2.2) (3 : Int32).toNatClampNeg)), some (.int (y3 - y4.1))]) (st' := [.int 1, .int v2]) (w' := W_X5 (m_X5_state y5 y4.2)) [] 2 (by with_unfolding_all rfl) trivial ?_
    refine ev_br rfl rfl (fun h7 => ?_) (fun h7 => ?_)
    · replace hR := lf_f h7 hR
      refine ev_run (cs := []) (pc' := 88) (L' := [some (.ref 0), some (.int v1), some (.int v2), some (.int y2.1), some (.int (((a_X5_state y2.2) (6 : Int32).toNatClampNeg) - ((a_X5_kept y2.2) (6 : Int32).toNatClampNeg))), some (.int ((a_X5_state y2.2) (3 : Int32).toNatClampNeg)), some (.int (y3 - y4.1))]) (st' := [.int 2, .int v2]) (w' := W_X5 (m_X5_state y5 y4.2)) [] 2 (by with_unfolding_all rfl) trivial ?_
      refine ev_br rfl rfl (fun h8 => ?_) (fun h8 => ?_)
      · replace hR := lf_f h8 hR
        refine ev_run (cs := []) (pc' := 98) (L' := [some (.ref 0), some (.int v1), some (.int v2), some (.int y2.1), some (.int (((a_X5_state y2.2) (6 : Int32).toNatClampNeg) - ((a_X5_kept y2.2) (6 : Int32).toNatClampNeg))), some (.int ((a_X5_state y2.2) (3 : Int32).toNatClampNeg)), some (.int (y3 - y4.1))]) (st' := [.int (y3 - y4.1)]) (w' := W_X5 (m_X5_state y5 y4.2)) [] 1 (by with_unfolding_all rfl) trivial ?_
        cases hR
        exact ev_exit ⟨_, _, rfl, ⟨rfl, Or.inl rfl⟩, ⟨rfl, rfl⟩, Nat.le_refl _, Nat.le_refl _⟩
      · replace hR := lf_t h8 hR
        refine ev_run (cs := []) (pc' := 98) (L' := [some (.ref 0), some (.int v1), some (.int v2), some (.int y2.1), some (.int (((a_X5_state y2.2) (6 : Int32).toNatClampNeg) - ((a_X5_kept y2.2) (6 : Int32).toNatClampNeg))), some (.int ((a_X5_state y2.2) (3 : Int32).toNatClampNeg)), some (.int (y3 - y4.1))]) (st' := [.int ((a_X5_state y2.2) (3 : Int32).toNatClampNeg)]) (w' := W_X5 (m_X5_state y5 y4.2)) [] 2 (by with_unfolding_all rfl) trivial ?_
        cases hR
        exact ev_exit ⟨_, _, rfl, ⟨rfl, Or.inl rfl⟩, ⟨rfl, rfl⟩, Nat.le_refl _, Nat.le_refl _⟩
    · replace hR := lf_t h7 hR
      refine ev_run (cs := []) (pc' := 98) (L' := [some (.ref 0), some (.int v1), some (.int v2), some (.int y2.1), some (.int (((a_X5_state y2.2) (6 : Int32).toNatClampNeg) - ((a_X5_kept y2.2) (6 : Int32).toNatClampNeg))), some (.int ((a_X5_state y2.2) (3 : Int32).toNatClampNeg)), some (.int (y3 - y4.1))]) (st' := [.int (((a_X5_state y2.2) (6 : Int32).toNatClampNeg) - ((a_X5_kept y2.2) (6 : Int32).toNatClampNeg))]) (w' := W_X5 (m_X5_state y5 y4.2)) [] 2 (by with_unfolding_all rfl) trivial ?_
      cases hR
      exact ev_exit ⟨_, _, rfl, ⟨rfl, Or.inl rfl⟩, ⟨rfl, rfl⟩, Nat.le_refl _, Nat.le_refl _⟩
  · replace hR := lf_t h6 hR
    refine ev_run (cs := []) (pc' := 98) (L' := [some (.ref 0), some (.int v1), some (.int v2), some (.int y2.1), some (.int (((a_X5_state y2.2) (6 : Int32).toNatClampNeg) - ((a_X5_kept y2.2) (6 : Int32).toNatClampNeg))), some (.int ((a_X5_state y2.2) (3 : Int32).toNatClampNeg)), some (.int (y3 - y4.1))]) (st' := [.int y2.1]) (w' := W_X5 (m_X5_state y5 y4.2)) [] 2 (by with_unfolding_all rfl) trivial ?_
    cases hR
    exact ev_exit ⟨_, _, rfl, ⟨rfl, Or.inl rfl⟩, ⟨rfl, rfl⟩, Nat.le_refl _, Nat.le_refl _⟩

def s_X5_ifPassed_b25 (F : Nat) (u : S_X5) (v1 : Int32) (v2 : Int32) (p1 : Int32) : Option (Int32 × S_X5) := if p1 ≤ 0 then ((s_X5_wouldPass F (m_X5_thrown p1 u) v1 v2).bind fun y1 => (some (y1.1, y1.2))) else (some (0, m_X5_thrown p1 u))
set_option maxHeartbeats 4000000 in
set_option maxRecDepth 20000 in
theorem t_X5_ifPassed_b25 (F : Nat) (u : S_X5) (v1 : Int32) (v2 : Int32) (p1 : Int32) (x : (Int32 × S_X5))  (hR : s_X5_ifPassed_b25 F u v1 v2 p1 = some x) : ev_V mm_X5_ifPassed none (ev_XR mm_X5_ifPassed (fun r w => r = some (.int x.1) ∧ w = W_X5 x.2)) 25 [some (.ref 0), some (.int v1), some (.int v2)] [.int p1, .ref 0] (W_X5 u) 0 0 := by
  unfold s_X5_ifPassed_b25 at hR
  refine ev_run (cs := []) (pc' := 32) (L' := [some (.ref 0), some (.int v1), some (.int v2)]) (st' := [.int p1]) (w' := W_X5 (m_X5_thrown p1 u)) [] 3 (by with_unfolding_all rfl) trivial ?_
  refine ev_br rfl rfl (fun h1 => ?_) (fun h1 => ?_)
  · replace hR := lf_t h1 hR
    refine ev_run (cs := []) (pc' := 42) (L' := [some (.ref 0), some (.int v1), some (.int v2)]) (st' := [.int v2, .int v1, .ref 0]) (w' := W_X5 (m_X5_thrown p1 u)) [] 3 (by with_unfolding_all rfl) trivial ?_
    obtain ⟨y1, h2, hR⟩ := lf_b hR
    refine ev_callV1 0 (t_X5_wouldPass F (m_X5_thrown p1 u) v1 v2 _ h2) cv_X5_wouldPass ml_X5_233 rfl rfl rfl (Nat.le_of_ble_eq_true rfl) (by with_unfolding_all rfl) (Nat.le_of_ble_eq_true rfl) ⟨Nat.le_of_ble_eq_true rfl, Nat.le_of_ble_eq_true rfl⟩ ⟨Nat.le_refl _, Nat.le_refl _⟩ ?_ ?_
    · rintro r w ⟨rfl, rfl⟩; rfl
    rintro r w ⟨rfl, rfl⟩
    refine ev_nx (pc' := 45) (st' := [.int y1.1]) (w' := W_X5 y1.2) rfl rfl (by with_unfolding_all rfl) rfl rfl ?_
    cases hR
    exact ev_exit ⟨_, _, rfl, ⟨rfl, Or.inl rfl⟩, ⟨rfl, rfl⟩, Nat.le_refl _, Nat.le_refl _⟩
  · replace hR := lf_f h1 hR
    refine ev_run (cs := []) (pc' := 45) (L' := [some (.ref 0), some (.int v1), some (.int v2)]) (st' := [.int 0]) (w' := W_X5 (m_X5_thrown p1 u)) [] 2 (by with_unfolding_all rfl) trivial ?_
    cases hR
    exact ev_exit ⟨_, _, rfl, ⟨rfl, Or.inl rfl⟩, ⟨rfl, rfl⟩, Nat.le_refl _, Nat.le_refl _⟩

def s_X5_ifPassed (F : Nat) (u : S_X5) (v1 : Int32) (v2 : Int32) : Option (Int32 × S_X5) := (s_X5_within F v1 1 100).bind fun y1 => (if y1 then ((s_X5_within F v2 0 3).bind fun y2 => (if y2 then (s_X5_ifPassed_b25 F u v1 v2 0) else (s_X5_ifPassed_b25 F u v1 v2 1))) else (s_X5_ifPassed_b25 F u v1 v2 1))
set_option maxHeartbeats 4000000 in
set_option maxRecDepth 20000 in
theorem t_X5_ifPassed (F : Nat) (u : S_X5) (v1 : Int32) (v2 : Int32) (x : (Int32 × S_X5)) (hR : s_X5_ifPassed F u v1 v2 = some x) : ev_A yX5_ifPassed mm_X5_ifPassed none [.ref 0, .int v1, .int v2] (W_X5 u) (fun r w => r = some (.int x.1) ∧ w = W_X5 x.2) := by
  unfold s_X5_ifPassed at hR
  refine ev_start ok_X5_ifPassed (by decide +kernel) rfl rfl (Nat.le_of_ble_eq_true rfl) ?_
  refine ev_run (cs := []) (pc' := 5) (L' := [some (.ref 0), some (.int v1), some (.int v2)]) (st' := [.int 100, .int 1, .int v1, .ref 0]) (w' := W_X5 u) [] 4 (by with_unfolding_all rfl) trivial ?_
  obtain ⟨y1, h1, hR⟩ := lf_b hR
  refine ev_callS1 0 (t_X5_within F v1 1 100 _ h1) cs_X5_within ml_X5_46 rfl rfl rfl (Nat.le_of_ble_eq_true rfl) (by with_unfolding_all rfl) (Nat.le_of_ble_eq_true rfl) ⟨Nat.le_of_ble_eq_true rfl, Nat.le_of_ble_eq_true rfl⟩ ⟨Nat.le_refl _, Nat.le_refl _⟩ ?_ ?_
  · rintro r w ⟨rfl, rfl⟩; rfl
  rintro r w ⟨rfl, rfl⟩
  refine ev_nx (pc' := 8) (st' := [.int (ev_b y1), .ref 0]) (w' := W_X5 u) rfl rfl (by with_unfolding_all rfl) rfl rfl ?_
  refine ev_br rfl rfl (fun h2 => ?_) (fun h2 => ?_)
  · replace hR := lf_z0 h2 hR
    refine ev_run (cs := []) (pc' := 25) (L' := [some (.ref 0), some (.int v1), some (.int v2)]) (st' := [.int 1, .ref 0]) (w' := W_X5 u) [] 1 (by with_unfolding_all rfl) trivial ?_
    exact ev_to2 (t_X5_ifPassed_b25 F u v1 v2 1 _ hR) ⟨rfl, rfl, rfl, trivial⟩ rfl rfl
  · replace hR := lf_z1 h2 hR
    refine ev_run (cs := []) (pc' := 14) (L' := [some (.ref 0), some (.int v1), some (.int v2)]) (st' := [.int 3, .int 0, .int v2, .ref 0]) (w' := W_X5 u) [] 3 (by with_unfolding_all rfl) trivial ?_
    obtain ⟨y2, h3, hR⟩ := lf_b hR
    refine ev_callS1 0 (t_X5_within F v2 0 3 _ h3) cs_X5_within ml_X5_46 rfl rfl rfl (Nat.le_of_ble_eq_true rfl) (by with_unfolding_all rfl) (Nat.le_of_ble_eq_true rfl) ⟨Nat.le_of_ble_eq_true rfl, Nat.le_of_ble_eq_true rfl⟩ ⟨Nat.le_refl _, Nat.le_refl _⟩ ?_ ?_
    · rintro r w ⟨rfl, rfl⟩; rfl
    rintro r w ⟨rfl, rfl⟩
    refine ev_nx (pc' := 17) (st' := [.int (ev_b y2), .ref 0]) (w' := W_X5 u) rfl rfl (by with_unfolding_all rfl) rfl rfl ?_
    refine ev_br rfl rfl (fun h4 => ?_) (fun h4 => ?_)
    · replace hR := lf_z0 h4 hR
      refine ev_run (cs := []) (pc' := 25) (L' := [some (.ref 0), some (.int v1), some (.int v2)]) (st' := [.int 1, .ref 0]) (w' := W_X5 u) [] 1 (by with_unfolding_all rfl) trivial ?_
      exact ev_to2 (t_X5_ifPassed_b25 F u v1 v2 1 _ hR) ⟨rfl, rfl, rfl, trivial⟩ rfl rfl
    · replace hR := lf_z1 h4 hR
      refine ev_run (cs := []) (pc' := 25) (L' := [some (.ref 0), some (.int v1), some (.int v2)]) (st' := [.int 0, .ref 0]) (w' := W_X5 u) [] 2 (by with_unfolding_all rfl) trivial ?_
      exact ev_to2 (t_X5_ifPassed_b25 F u v1 v2 0 _ hR) ⟨rfl, rfl, rfl, trivial⟩ rfl rfl

def s_X5_wouldEnd_b40 (F : Nat) (u : S_X5) (v2 : Int32) : Option (Int32 × S_X5) := (s_X5_copy F 20377 20377 (a_X5_kept u) (a_X5_state u) 0 0).bind fun y1 => (if 200 < v2 then (some ((-1), m_X5_state y1 u)) else (some (v2, m_X5_state y1 u)))
set_option maxHeartbeats 4000000 in
set_option maxRecDepth 20000 in
theorem t_X5_wouldEnd_b40 (F : Nat) (u : S_X5) (v2 : Int32) (x : (Int32 × S_X5))  (hR : s_X5_wouldEnd_b40 F u v2 = some x) : ev_V mm_X5_wouldEnd none (ev_XR mm_X5_wouldEnd (fun r w => r = some (.int x.1) ∧ w = W_X5 x.2)) 40 [some (.ref 0), none, some (.int v2)] [] (W_X5 u) 0 0 := by
  unfold s_X5_wouldEnd_b40 at hR
  refine ev_run (cs := []) (pc' := 50) (L' := [some (.ref 0), none, some (.int v2)]) (st' := [.int 0, .ref 1, .int 0, .ref 2]) (w' := W_X5 u) [] 6 (by with_unfolding_all rfl) trivial ?_
  obtain ⟨y1, h1, hR⟩ := lf_b hR
  refine ev_callS2 1 2 1 (t_X5_copy F 20377 20377 (a_X5_kept u) (a_X5_state u) 0 0 _ h1) cs_X5_copy ml_X5_42 rfl rfl rfl rfl (Nat.le_of_ble_eq_true rfl) (Nat.le_of_ble_eq_true rfl) (by decide) (by with_unfolding_all rfl) (Nat.le_of_ble_eq_true rfl) ⟨Nat.le_of_ble_eq_true rfl, Nat.le_of_ble_eq_true rfl⟩ ⟨Nat.le_refl _, Nat.le_refl _⟩ ?_ ?_
  · rintro r w ⟨rfl, rfl⟩; rfl
  rintro r w ⟨rfl, rfl⟩
  refine ev_nx (pc' := 53) (st' := []) (w' := W_X5 (m_X5_state y1 u)) rfl rfl (by with_unfolding_all rfl) rfl rfl ?_
  refine ev_run (cs := []) (pc' := 57) (L' := [some (.ref 0), none, some (.int v2)]) (st' := [.int 200, .int v2]) (w' := W_X5 (m_X5_state y1 u)) [] 2 (by with_unfolding_all rfl) trivial ?_
  refine ev_br rfl rfl (fun h2 => ?_) (fun h2 => ?_)
  · replace hR := lf_t h2 hR
    refine ev_run (cs := []) (pc' := 65) (L' := [some (.ref 0), none, some (.int v2)]) (st' := [.int (-1)]) (w' := W_X5 (m_X5_state y1 u)) [] 1 (by with_unfolding_all rfl) trivial ?_
    cases hR
    exact ev_exit ⟨_, _, rfl, ⟨rfl, Or.inl rfl⟩, ⟨rfl, rfl⟩, Nat.le_refl _, Nat.le_refl _⟩
  · replace hR := lf_f h2 hR
    refine ev_run (cs := []) (pc' := 65) (L' := [some (.ref 0), none, some (.int v2)]) (st' := [.int v2]) (w' := W_X5 (m_X5_state y1 u)) [] 2 (by with_unfolding_all rfl) trivial ?_
    cases hR
    exact ev_exit ⟨_, _, rfl, ⟨rfl, Or.inl rfl⟩, ⟨rfl, rfl⟩, Nat.le_refl _, Nat.le_refl _⟩

def s_X5_wouldEnd_l15 (F : Nat) (v1 : Int32) : Nat → S_X5 → Int32 → Option (Int32 × S_X5)
  | 0 => fun _ _ => none
  | n + 1 => fun u v2 => (s_X5_lives F u v1).bind fun y1 => (if y1 then (if 200 < v2 then (s_X5_wouldEnd_b40 F u v2) else ((s_X5_tick F u).bind fun y2 => (s_X5_wouldEnd_l15 F v1 n y2 (v2 + 1)))) else (s_X5_wouldEnd_b40 F u v2))
theorem e_X5_wouldEnd_l15 (F : Nat) (v1 : Int32) (n : Nat) (u : S_X5) (v2 : Int32) : s_X5_wouldEnd_l15 F v1 (n + 1) u v2 = (s_X5_lives F u v1).bind fun y1 => (if y1 then (if 200 < v2 then (s_X5_wouldEnd_b40 F u v2) else ((s_X5_tick F u).bind fun y2 => (s_X5_wouldEnd_l15 F v1 n y2 (v2 + 1)))) else (s_X5_wouldEnd_b40 F u v2)) := rfl
set_option maxHeartbeats 4000000 in
set_option maxRecDepth 20000 in
theorem t_X5_wouldEnd_l15 (F : Nat) (v1 : Int32) (x : (Int32 × S_X5))  : ∀ (n : Nat) (u : S_X5) (v2 : Int32), s_X5_wouldEnd_l15 F v1 n u v2 = some x → ev_V mm_X5_wouldEnd none (ev_XR mm_X5_wouldEnd (fun r w => r = some (.int x.1) ∧ w = W_X5 x.2)) 15 [some (.ref 0), some (.int v1), some (.int v2)] [] (W_X5 u) 0 0 := by
  intro n
  induction n with
  | zero => intro u v2 hR; cases hR
  | succ n hk15 =>
    intro u v2 hR
    unfold s_X5_wouldEnd_l15 at hR
    refine ev_run (cs := []) (pc' := 17) (L' := [some (.ref 0), some (.int v1), some (.int v2)]) (st' := [.int v1, .ref 0]) (w' := W_X5 u) [] 2 (by with_unfolding_all rfl) trivial ?_
    obtain ⟨y1, h1, hR⟩ := lf_b hR
    refine ev_callV1 0 (t_X5_lives F u v1 _ h1) cv_X5_lives ml_X5_54 rfl rfl rfl (Nat.le_of_ble_eq_true rfl) (by with_unfolding_all rfl) (Nat.le_of_ble_eq_true rfl) ⟨Nat.le_of_ble_eq_true rfl, Nat.le_of_ble_eq_true rfl⟩ ⟨Nat.le_refl _, Nat.le_refl _⟩ ?_ ?_
    · rintro r w ⟨rfl, rfl⟩; rfl
    rintro r w ⟨rfl, rfl⟩
    refine ev_nx (pc' := 20) (st' := [.int (ev_b y1)]) (w' := W_X5 u) rfl rfl (by with_unfolding_all rfl) rfl rfl ?_
    refine ev_br rfl rfl (fun h2 => ?_) (fun h2 => ?_)
    · replace hR := lf_z0 h2 hR
      exact ev_to2 (t_X5_wouldEnd_b40 F u v2 _ hR) ⟨rfl, rfl, trivial⟩ rfl rfl
    · replace hR := lf_z1 h2 hR
      refine ev_run (cs := []) (pc' := 27) (L' := [some (.ref 0), some (.int v1), some (.int v2)]) (st' := [.int 200, .int v2]) (w' := W_X5 u) [] 2 (by with_unfolding_all rfl) trivial ?_
      refine ev_br rfl rfl (fun h3 => ?_) (fun h3 => ?_)
      · replace hR := lf_t h3 hR
        exact ev_to2 (t_X5_wouldEnd_b40 F u v2 _ hR) ⟨rfl, rfl, trivial⟩ rfl rfl
      · replace hR := lf_f h3 hR
        refine ev_run (cs := []) (pc' := 31) (L' := [some (.ref 0), some (.int v1), some (.int v2)]) (st' := [.ref 0]) (w' := W_X5 u) [] 1 (by with_unfolding_all rfl) trivial ?_
        obtain ⟨y2, h4, hR⟩ := lf_b hR
        refine ev_callV1 0 (t_X5_tick F u _ h4) cv_X5_tick ml_X5_162 rfl rfl rfl (Nat.le_of_ble_eq_true rfl) (by with_unfolding_all rfl) (Nat.le_of_ble_eq_true rfl) ⟨Nat.le_of_ble_eq_true rfl, Nat.le_of_ble_eq_true rfl⟩ ⟨Nat.le_refl _, Nat.le_refl _⟩ ?_ ?_
        · rintro r w ⟨rfl, rfl⟩; rfl
        rintro r w ⟨rfl, rfl⟩
        refine ev_nx (pc' := 34) (st' := []) (w' := W_X5 y2) rfl rfl (by with_unfolding_all rfl) rfl rfl ?_
        refine ev_run (cs := []) (pc' := 15) (L' := [some (.ref 0), some (.int v1), some (.int (v2 + 1))]) (st' := []) (w' := W_X5 y2) [] 2 (by with_unfolding_all rfl) trivial ?_
        exact ev_to2 (hk15 _ _ hR) ⟨rfl, rfl, rfl, trivial⟩ rfl rfl

def s_X5_wouldEnd (F : Nat) (u : S_X5) (v1 : Int32) : Option (Int32 × S_X5) := (s_X5_copy F 20377 20377 (a_X5_state u) (a_X5_kept u) 0 0).bind fun y1 => (s_X5_wouldEnd_l15 F v1 F (m_X5_kept y1 u) 0)
set_option maxHeartbeats 4000000 in
set_option maxRecDepth 20000 in
theorem t_X5_wouldEnd (F : Nat) (u : S_X5) (v1 : Int32) (x : (Int32 × S_X5)) (hR : s_X5_wouldEnd F u v1 = some x) : ev_A yX5_wouldEnd mm_X5_wouldEnd none [.ref 0, .int v1] (W_X5 u) (fun r w => r = some (.int x.1) ∧ w = W_X5 x.2) := by
  unfold s_X5_wouldEnd at hR
  refine ev_start ok_X5_wouldEnd (by decide +kernel) rfl rfl (Nat.le_of_ble_eq_true rfl) ?_
  refine ev_run (cs := []) (pc' := 10) (L' := [some (.ref 0), some (.int v1), none]) (st' := [.int 0, .ref 2, .int 0, .ref 1]) (w' := W_X5 u) [] 6 (by with_unfolding_all rfl) trivial ?_
  obtain ⟨y1, h1, hR⟩ := lf_b hR
  refine ev_callS2 1 1 2 (t_X5_copy F 20377 20377 (a_X5_state u) (a_X5_kept u) 0 0 _ h1) cs_X5_copy ml_X5_42 rfl rfl rfl rfl (Nat.le_of_ble_eq_true rfl) (Nat.le_of_ble_eq_true rfl) (by decide) (by with_unfolding_all rfl) (Nat.le_of_ble_eq_true rfl) ⟨Nat.le_of_ble_eq_true rfl, Nat.le_of_ble_eq_true rfl⟩ ⟨Nat.le_refl _, Nat.le_refl _⟩ ?_ ?_
  · rintro r w ⟨rfl, rfl⟩; rfl
  rintro r w ⟨rfl, rfl⟩
  refine ev_nx (pc' := 13) (st' := []) (w' := W_X5 (m_X5_kept y1 u)) rfl rfl (by with_unfolding_all rfl) rfl rfl ?_
  refine ev_run (cs := []) (pc' := 15) (L' := [some (.ref 0), some (.int v1), some (.int 0)]) (st' := []) (w' := W_X5 (m_X5_kept y1 u)) [] 2 (by with_unfolding_all rfl) trivial ?_
  exact ev_to2 (t_X5_wouldEnd_l15 F v1 _ F (m_X5_kept y1 u) 0 hR) ⟨rfl, rfl, rfl, trivial⟩ rfl rfl

def s_X5_endsIn_b14 (F : Nat) (u : S_X5) (v1 : Int32) (p1 : Int32) : Option (Int32 × S_X5) := if p1 ≤ 0 then ((s_X5_wouldEnd F (m_X5_thrown p1 u) v1).bind fun y1 => (some (y1.1, y1.2))) else (some (0, m_X5_thrown p1 u))
set_option maxHeartbeats 4000000 in
set_option maxRecDepth 20000 in
theorem t_X5_endsIn_b14 (F : Nat) (u : S_X5) (v1 : Int32) (p1 : Int32) (x : (Int32 × S_X5))  (hR : s_X5_endsIn_b14 F u v1 p1 = some x) : ev_V mm_X5_endsIn none (ev_XR mm_X5_endsIn (fun r w => r = some (.int x.1) ∧ w = W_X5 x.2)) 14 [some (.ref 0), some (.int v1)] [.int p1, .ref 0] (W_X5 u) 0 0 := by
  unfold s_X5_endsIn_b14 at hR
  refine ev_run (cs := []) (pc' := 21) (L' := [some (.ref 0), some (.int v1)]) (st' := [.int p1]) (w' := W_X5 (m_X5_thrown p1 u)) [] 3 (by with_unfolding_all rfl) trivial ?_
  refine ev_br rfl rfl (fun h1 => ?_) (fun h1 => ?_)
  · replace hR := lf_t h1 hR
    refine ev_run (cs := []) (pc' := 30) (L' := [some (.ref 0), some (.int v1)]) (st' := [.int v1, .ref 0]) (w' := W_X5 (m_X5_thrown p1 u)) [] 2 (by with_unfolding_all rfl) trivial ?_
    obtain ⟨y1, h2, hR⟩ := lf_b hR
    refine ev_callV1 0 (t_X5_wouldEnd F (m_X5_thrown p1 u) v1 _ h2) cv_X5_wouldEnd ml_X5_236 rfl rfl rfl (Nat.le_of_ble_eq_true rfl) (by with_unfolding_all rfl) (Nat.le_of_ble_eq_true rfl) ⟨Nat.le_of_ble_eq_true rfl, Nat.le_of_ble_eq_true rfl⟩ ⟨Nat.le_refl _, Nat.le_refl _⟩ ?_ ?_
    · rintro r w ⟨rfl, rfl⟩; rfl
    rintro r w ⟨rfl, rfl⟩
    refine ev_nx (pc' := 33) (st' := [.int y1.1]) (w' := W_X5 y1.2) rfl rfl (by with_unfolding_all rfl) rfl rfl ?_
    cases hR
    exact ev_exit ⟨_, _, rfl, ⟨rfl, Or.inl rfl⟩, ⟨rfl, rfl⟩, Nat.le_refl _, Nat.le_refl _⟩
  · replace hR := lf_f h1 hR
    refine ev_run (cs := []) (pc' := 33) (L' := [some (.ref 0), some (.int v1)]) (st' := [.int 0]) (w' := W_X5 (m_X5_thrown p1 u)) [] 2 (by with_unfolding_all rfl) trivial ?_
    cases hR
    exact ev_exit ⟨_, _, rfl, ⟨rfl, Or.inl rfl⟩, ⟨rfl, rfl⟩, Nat.le_refl _, Nat.le_refl _⟩

def s_X5_endsIn (F : Nat) (u : S_X5) (v1 : Int32) : Option (Int32 × S_X5) := (s_X5_isThing F u v1).bind fun y1 => (if y1 then (s_X5_endsIn_b14 F u v1 0) else (s_X5_endsIn_b14 F u v1 1))
set_option maxHeartbeats 4000000 in
set_option maxRecDepth 20000 in
theorem t_X5_endsIn (F : Nat) (u : S_X5) (v1 : Int32) (x : (Int32 × S_X5)) (hR : s_X5_endsIn F u v1 = some x) : ev_A yX5_endsIn mm_X5_endsIn none [.ref 0, .int v1] (W_X5 u) (fun r w => r = some (.int x.1) ∧ w = W_X5 x.2) := by
  unfold s_X5_endsIn at hR
  refine ev_start ok_X5_endsIn (by decide +kernel) rfl rfl (Nat.le_of_ble_eq_true rfl) ?_
  refine ev_run (cs := []) (pc' := 3) (L' := [some (.ref 0), some (.int v1)]) (st' := [.int v1, .ref 0, .ref 0]) (w' := W_X5 u) [] 3 (by with_unfolding_all rfl) trivial ?_
  obtain ⟨y1, h1, hR⟩ := lf_b hR
  refine ev_callV1 0 (t_X5_isThing F u v1 _ h1) cv_X5_isThing ml_X5_114 rfl rfl rfl (Nat.le_of_ble_eq_true rfl) (by with_unfolding_all rfl) (Nat.le_of_ble_eq_true rfl) ⟨Nat.le_of_ble_eq_true rfl, Nat.le_of_ble_eq_true rfl⟩ ⟨Nat.le_refl _, Nat.le_refl _⟩ ?_ ?_
  · rintro r w ⟨rfl, rfl⟩; rfl
  rintro r w ⟨rfl, rfl⟩
  refine ev_nx (pc' := 6) (st' := [.int (ev_b y1), .ref 0]) (w' := W_X5 u) rfl rfl (by with_unfolding_all rfl) rfl rfl ?_
  refine ev_br rfl rfl (fun h2 => ?_) (fun h2 => ?_)
  · replace hR := lf_z0 h2 hR
    refine ev_run (cs := []) (pc' := 14) (L' := [some (.ref 0), some (.int v1)]) (st' := [.int 1, .ref 0]) (w' := W_X5 u) [] 1 (by with_unfolding_all rfl) trivial ?_
    exact ev_to2 (t_X5_endsIn_b14 F u v1 1 _ hR) ⟨rfl, rfl, trivial⟩ rfl rfl
  · replace hR := lf_z1 h2 hR
    refine ev_run (cs := []) (pc' := 14) (L' := [some (.ref 0), some (.int v1)]) (st' := [.int 0, .ref 0]) (w' := W_X5 u) [] 2 (by with_unfolding_all rfl) trivial ?_
    exact ev_to2 (t_X5_endsIn_b14 F u v1 0 _ hR) ⟨rfl, rfl, trivial⟩ rfl rfl

def s_X5_wouldTry_b64 (F : Nat) (u : S_X5) (p0 : Int32) : Option (Int32 × S_X5) := (s_X5_copy F 20377 20377 (a_X5_kept u) (a_X5_state u) 0 0).bind fun y1 => (some (p0, m_X5_state y1 u))
set_option maxHeartbeats 4000000 in
set_option maxRecDepth 20000 in
theorem t_X5_wouldTry_b64 (F : Nat) (u : S_X5) (p0 : Int32) (x : (Int32 × S_X5))  (hR : s_X5_wouldTry_b64 F u p0 = some x) : ev_V mm_X5_wouldTry none (ev_XR mm_X5_wouldTry (fun r w => r = some (.int x.1) ∧ w = W_X5 x.2)) 64 [some (.ref 0), none, none] [.int p0] (W_X5 u) 0 0 := by
  unfold s_X5_wouldTry_b64 at hR
  refine ev_run (cs := []) (pc' := 75) (L' := [some (.ref 0), none, some (.int p0)]) (st' := [.int 0, .ref 1, .int 0, .ref 2]) (w' := W_X5 u) [] 7 (by with_unfolding_all rfl) trivial ?_
  obtain ⟨y1, h1, hR⟩ := lf_b hR
  refine ev_callS2 1 2 1 (t_X5_copy F 20377 20377 (a_X5_kept u) (a_X5_state u) 0 0 _ h1) cs_X5_copy ml_X5_42 rfl rfl rfl rfl (Nat.le_of_ble_eq_true rfl) (Nat.le_of_ble_eq_true rfl) (by decide) (by with_unfolding_all rfl) (Nat.le_of_ble_eq_true rfl) ⟨Nat.le_of_ble_eq_true rfl, Nat.le_of_ble_eq_true rfl⟩ ⟨Nat.le_refl _, Nat.le_refl _⟩ ?_ ?_
  · rintro r w ⟨rfl, rfl⟩; rfl
  rintro r w ⟨rfl, rfl⟩
  refine ev_nx (pc' := 78) (st' := []) (w' := W_X5 (m_X5_state y1 u)) rfl rfl (by with_unfolding_all rfl) rfl rfl ?_
  refine ev_run (cs := []) (pc' := 79) (L' := [some (.ref 0), none, some (.int p0)]) (st' := [.int p0]) (w' := W_X5 (m_X5_state y1 u)) [] 1 (by with_unfolding_all rfl) trivial ?_
  cases hR
  exact ev_exit ⟨_, _, rfl, ⟨rfl, Or.inl rfl⟩, ⟨rfl, rfl⟩, Nat.le_refl _, Nat.le_refl _⟩

def s_X5_wouldTry (F : Nat) (u : S_X5) (v1 : Int32) : Option (Int32 × S_X5) := (s_X5_copy F 20377 20377 (a_X5_state u) (a_X5_kept u) 0 0).bind fun y1 => ((s_X5_holdTrial F (m_X5_kept y1 u)).bind fun y2 => (if v1 = 0 then (s_X5_wouldTry_b64 F y2 (((a_X5_state y2) (4 : Int32).toNatClampNeg) - ((a_X5_kept y2) (4 : Int32).toNatClampNeg))) else (if v1 = 1 then ((s_X5_suspects F y2).bind fun y3 => (s_X5_wouldTry_b64 F y2 y3)) else (s_X5_wouldTry_b64 F y2 (((a_X5_state y2) (6 : Int32).toNatClampNeg) - ((a_X5_kept y2) (6 : Int32).toNatClampNeg))))))
set_option maxHeartbeats 4000000 in
set_option maxRecDepth 20000 in
theorem t_X5_wouldTry (F : Nat) (u : S_X5) (v1 : Int32) (x : (Int32 × S_X5)) (hR : s_X5_wouldTry F u v1 = some x) : ev_A yX5_wouldTry mm_X5_wouldTry none [.ref 0, .int v1] (W_X5 u) (fun r w => r = some (.int x.1) ∧ w = W_X5 x.2) := by
  unfold s_X5_wouldTry at hR
  refine ev_start ok_X5_wouldTry (by decide +kernel) rfl rfl (Nat.le_of_ble_eq_true rfl) ?_
  refine ev_run (cs := []) (pc' := 10) (L' := [some (.ref 0), some (.int v1), none]) (st' := [.int 0, .ref 2, .int 0, .ref 1]) (w' := W_X5 u) [] 6 (by with_unfolding_all rfl) trivial ?_
  obtain ⟨y1, h1, hR⟩ := lf_b hR
  refine ev_callS2 1 1 2 (t_X5_copy F 20377 20377 (a_X5_state u) (a_X5_kept u) 0 0 _ h1) cs_X5_copy ml_X5_42 rfl rfl rfl rfl (Nat.le_of_ble_eq_true rfl) (Nat.le_of_ble_eq_true rfl) (by decide) (by with_unfolding_all rfl) (Nat.le_of_ble_eq_true rfl) ⟨Nat.le_of_ble_eq_true rfl, Nat.le_of_ble_eq_true rfl⟩ ⟨Nat.le_refl _, Nat.le_refl _⟩ ?_ ?_
  · rintro r w ⟨rfl, rfl⟩; rfl
  rintro r w ⟨rfl, rfl⟩
  refine ev_nx (pc' := 13) (st' := []) (w' := W_X5 (m_X5_kept y1 u)) rfl rfl (by with_unfolding_all rfl) rfl rfl ?_
  refine ev_run (cs := []) (pc' := 14) (L' := [some (.ref 0), some (.int v1), none]) (st' := [.ref 0]) (w' := W_X5 (m_X5_kept y1 u)) [] 1 (by with_unfolding_all rfl) trivial ?_
  obtain ⟨y2, h2, hR⟩ := lf_b hR
  refine ev_callV1 0 (t_X5_holdTrial F (m_X5_kept y1 u) _ h2) cv_X5_holdTrial ml_X5_159 rfl rfl rfl (Nat.le_of_ble_eq_true rfl) (by with_unfolding_all rfl) (Nat.le_of_ble_eq_true rfl) ⟨Nat.le_of_ble_eq_true rfl, Nat.le_of_ble_eq_true rfl⟩ ⟨Nat.le_refl _, Nat.le_refl _⟩ ?_ ?_
  · rintro r w ⟨rfl, rfl⟩; rfl
  rintro r w ⟨rfl, rfl⟩
  refine ev_nx (pc' := 17) (st' := []) (w' := W_X5 y2) rfl rfl (by with_unfolding_all rfl) rfl rfl ?_
  refine ev_run (cs := []) (pc' := 18) (L' := [some (.ref 0), some (.int v1), none]) (st' := [.int v1]) (w' := W_X5 y2) [] 1 (by with_unfolding_all rfl) trivial ?_
  refine ev_br rfl rfl (fun h3 => ?_) (fun h3 => ?_)
  · replace hR := lf_f h3 hR
    refine ev_run (cs := []) (pc' := 39) (L' := [some (.ref 0), some (.int v1), none]) (st' := [.int 1, .int v1]) (w' := W_X5 y2) [] 2 (by with_unfolding_all rfl) trivial ?_
    refine ev_br rfl rfl (fun h4 => ?_) (fun h4 => ?_)
    · replace hR := lf_f h4 hR
      refine ev_run (cs := [lf_ix 6 20377, lf_ix 6 20377]) (pc' := 64) (L' := [some (.ref 0), some (.int v1), none]) (st' := [.int (((a_X5_state y2) (6 : Int32).toNatClampNeg) - ((a_X5_kept y2) (6 : Int32).toNatClampNeg))]) (w' := W_X5 y2) [] 9 (by with_unfolding_all rfl) ⟨by show ¬ _; decide, by show ¬ _; decide⟩ ?_
      exact ev_to2 (t_X5_wouldTry_b64 F y2 (((a_X5_state y2) (6 : Int32).toNatClampNeg) - ((a_X5_kept y2) (6 : Int32).toNatClampNeg)) _ hR) ⟨rfl, trivial⟩ rfl rfl
    · replace hR := lf_t h4 hR
      refine ev_run (cs := []) (pc' := 43) (L' := [some (.ref 0), some (.int v1), none]) (st' := [.ref 0]) (w' := W_X5 y2) [] 1 (by with_unfolding_all rfl) trivial ?_
      obtain ⟨y3, h5, hR⟩ := lf_b hR
      refine ev_callV1 0 (t_X5_suspects F y2 _ h5) cv_X5_suspects ml_X5_138 rfl rfl rfl (Nat.le_of_ble_eq_true rfl) (by with_unfolding_all rfl) (Nat.le_of_ble_eq_true rfl) ⟨Nat.le_of_ble_eq_true rfl, Nat.le_of_ble_eq_true rfl⟩ ⟨Nat.le_refl _, Nat.le_refl _⟩ ?_ ?_
      · rintro r w ⟨rfl, rfl⟩; rfl
      rintro r w ⟨rfl, rfl⟩
      refine ev_nx (pc' := 46) (st' := [.int y3]) (w' := W_X5 y2) rfl rfl (by with_unfolding_all rfl) rfl rfl ?_
      refine ev_run (cs := []) (pc' := 64) (L' := [some (.ref 0), some (.int v1), none]) (st' := [.int y3]) (w' := W_X5 y2) [] 1 (by with_unfolding_all rfl) trivial ?_
      exact ev_to2 (t_X5_wouldTry_b64 F y2 y3 _ hR) ⟨rfl, trivial⟩ rfl rfl
  · replace hR := lf_t h3 hR
    refine ev_run (cs := [lf_ix 4 20377, lf_ix 4 20377]) (pc' := 64) (L' := [some (.ref 0), some (.int v1), none]) (st' := [.int (((a_X5_state y2) (4 : Int32).toNatClampNeg) - ((a_X5_kept y2) (4 : Int32).toNatClampNeg))]) (w' := W_X5 y2) [] 10 (by with_unfolding_all rfl) ⟨by show ¬ _; decide, by show ¬ _; decide⟩ ?_
    exact ev_to2 (t_X5_wouldTry_b64 F y2 (((a_X5_state y2) (4 : Int32).toNatClampNeg) - ((a_X5_kept y2) (4 : Int32).toNatClampNeg)) _ hR) ⟨rfl, trivial⟩ rfl rfl

def s_X5_ifTried_b15 (F : Nat) (u : S_X5) (v1 : Int32) (p1 : Int32) : Option (Int32 × S_X5) := if p1 ≤ 0 then ((s_X5_wouldTry F (m_X5_thrown p1 u) v1).bind fun y1 => (some (y1.1, y1.2))) else (some (0, m_X5_thrown p1 u))
set_option maxHeartbeats 4000000 in
set_option maxRecDepth 20000 in
theorem t_X5_ifTried_b15 (F : Nat) (u : S_X5) (v1 : Int32) (p1 : Int32) (x : (Int32 × S_X5))  (hR : s_X5_ifTried_b15 F u v1 p1 = some x) : ev_V mm_X5_ifTried none (ev_XR mm_X5_ifTried (fun r w => r = some (.int x.1) ∧ w = W_X5 x.2)) 15 [some (.ref 0), some (.int v1)] [.int p1, .ref 0] (W_X5 u) 0 0 := by
  unfold s_X5_ifTried_b15 at hR
  refine ev_run (cs := []) (pc' := 22) (L' := [some (.ref 0), some (.int v1)]) (st' := [.int p1]) (w' := W_X5 (m_X5_thrown p1 u)) [] 3 (by with_unfolding_all rfl) trivial ?_
  refine ev_br rfl rfl (fun h1 => ?_) (fun h1 => ?_)
  · replace hR := lf_t h1 hR
    refine ev_run (cs := []) (pc' := 31) (L' := [some (.ref 0), some (.int v1)]) (st' := [.int v1, .ref 0]) (w' := W_X5 (m_X5_thrown p1 u)) [] 2 (by with_unfolding_all rfl) trivial ?_
    obtain ⟨y1, h2, hR⟩ := lf_b hR
    refine ev_callV1 0 (t_X5_wouldTry F (m_X5_thrown p1 u) v1 _ h2) cv_X5_wouldTry ml_X5_239 rfl rfl rfl (Nat.le_of_ble_eq_true rfl) (by with_unfolding_all rfl) (Nat.le_of_ble_eq_true rfl) ⟨Nat.le_of_ble_eq_true rfl, Nat.le_of_ble_eq_true rfl⟩ ⟨Nat.le_refl _, Nat.le_refl _⟩ ?_ ?_
    · rintro r w ⟨rfl, rfl⟩; rfl
    rintro r w ⟨rfl, rfl⟩
    refine ev_nx (pc' := 34) (st' := [.int y1.1]) (w' := W_X5 y1.2) rfl rfl (by with_unfolding_all rfl) rfl rfl ?_
    cases hR
    exact ev_exit ⟨_, _, rfl, ⟨rfl, Or.inl rfl⟩, ⟨rfl, rfl⟩, Nat.le_refl _, Nat.le_refl _⟩
  · replace hR := lf_f h1 hR
    refine ev_run (cs := []) (pc' := 34) (L' := [some (.ref 0), some (.int v1)]) (st' := [.int 0]) (w' := W_X5 (m_X5_thrown p1 u)) [] 2 (by with_unfolding_all rfl) trivial ?_
    cases hR
    exact ev_exit ⟨_, _, rfl, ⟨rfl, Or.inl rfl⟩, ⟨rfl, rfl⟩, Nat.le_refl _, Nat.le_refl _⟩

def s_X5_ifTried (F : Nat) (u : S_X5) (v1 : Int32) : Option (Int32 × S_X5) := (s_X5_within F v1 0 2).bind fun y1 => (if y1 then (s_X5_ifTried_b15 F u v1 0) else (s_X5_ifTried_b15 F u v1 1))
set_option maxHeartbeats 4000000 in
set_option maxRecDepth 20000 in
theorem t_X5_ifTried (F : Nat) (u : S_X5) (v1 : Int32) (x : (Int32 × S_X5)) (hR : s_X5_ifTried F u v1 = some x) : ev_A yX5_ifTried mm_X5_ifTried none [.ref 0, .int v1] (W_X5 u) (fun r w => r = some (.int x.1) ∧ w = W_X5 x.2) := by
  unfold s_X5_ifTried at hR
  refine ev_start ok_X5_ifTried (by decide +kernel) rfl rfl (Nat.le_of_ble_eq_true rfl) ?_
  refine ev_run (cs := []) (pc' := 4) (L' := [some (.ref 0), some (.int v1)]) (st' := [.int 2, .int 0, .int v1, .ref 0]) (w' := W_X5 u) [] 4 (by with_unfolding_all rfl) trivial ?_
  obtain ⟨y1, h1, hR⟩ := lf_b hR
  refine ev_callS1 0 (t_X5_within F v1 0 2 _ h1) cs_X5_within ml_X5_46 rfl rfl rfl (Nat.le_of_ble_eq_true rfl) (by with_unfolding_all rfl) (Nat.le_of_ble_eq_true rfl) ⟨Nat.le_of_ble_eq_true rfl, Nat.le_of_ble_eq_true rfl⟩ ⟨Nat.le_refl _, Nat.le_refl _⟩ ?_ ?_
  · rintro r w ⟨rfl, rfl⟩; rfl
  rintro r w ⟨rfl, rfl⟩
  refine ev_nx (pc' := 7) (st' := [.int (ev_b y1), .ref 0]) (w' := W_X5 u) rfl rfl (by with_unfolding_all rfl) rfl rfl ?_
  refine ev_br rfl rfl (fun h2 => ?_) (fun h2 => ?_)
  · replace hR := lf_z0 h2 hR
    refine ev_run (cs := []) (pc' := 15) (L' := [some (.ref 0), some (.int v1)]) (st' := [.int 1, .ref 0]) (w' := W_X5 u) [] 1 (by with_unfolding_all rfl) trivial ?_
    exact ev_to2 (t_X5_ifTried_b15 F u v1 1 _ hR) ⟨rfl, rfl, trivial⟩ rfl rfl
  · replace hR := lf_z1 h2 hR
    refine ev_run (cs := []) (pc' := 15) (L' := [some (.ref 0), some (.int v1)]) (st' := [.int 0, .ref 0]) (w' := W_X5 u) [] 2 (by with_unfolding_all rfl) trivial ?_
    exact ev_to2 (t_X5_ifTried_b15 F u v1 0 _ hR) ⟨rfl, rfl, trivial⟩ rfl rfl

def s_X5_findFrom_b50 (F : Nat) (u : S_X5) : Option S_X5 := (s_X5_spread_p6 F u).bind fun y1 => (some (y1))
set_option maxHeartbeats 4000000 in
set_option maxRecDepth 20000 in
theorem t_X5_findFrom_b50 (F : Nat) (u : S_X5) (x : S_X5)  (hR : s_X5_findFrom_b50 F u = some x) : ev_V mm_X5_findFrom none (ev_XR mm_X5_findFrom (fun r w => r = none ∧ w = W_X5 x)) 50 [some (.ref 0), none, none] [] (W_X5 u) 0 0 := by
  unfold s_X5_findFrom_b50 at hR
  refine ev_run (cs := []) (pc' := 55) (L' := [some (.ref 0), none, none]) (st' := [.ref 6, .ref 0]) (w' := W_X5 u) [] 3 (by with_unfolding_all rfl) trivial ?_
  obtain ⟨y1, h1, hR⟩ := lf_b hR
  refine ev_callV1 0 (t_X5_spread_p6 F u _ h1) cv_X5_spread ml_X5_68 rfl rfl rfl (Nat.le_of_ble_eq_true rfl) (by with_unfolding_all rfl) (Nat.le_of_ble_eq_true rfl) ⟨Nat.le_of_ble_eq_true rfl, Nat.le_of_ble_eq_true rfl⟩ ⟨Nat.le_refl _, Nat.le_refl _⟩ ?_ ?_
  · rintro r w ⟨rfl, rfl⟩; rfl
  rintro r w ⟨rfl, rfl⟩
  refine ev_nx (pc' := 58) (st' := []) (w' := W_X5 y1) rfl rfl (by with_unfolding_all rfl) rfl rfl ?_
  cases hR
  exact ev_exit ⟨_, _, rfl, ⟨rfl, rfl⟩, ⟨rfl, rfl⟩, Nat.le_refl _, Nat.le_refl _⟩

def s_X5_findFrom_l9 (F : Nat) (v1 : Int32) : Nat → S_X5 → Int32 → Option S_X5
  | 0 => fun _ _ => none
  | n + 1 => fun u v2 => if 4 ≤ v2 then (s_X5_findFrom_b50 F u) else ((s_X5_lives F u v1).bind fun y1 => (if y1 then ((s_X5_slotOf F u v1 v2).bind fun y2 => (if y2 = (-1) then (s_X5_findFrom_l9 F v1 n u (v2 + 1)) else ((s_X5_slotOf F u v1 v2).bind fun y3 => (if lf_ix y3 24 then (s_X5_findFrom_l9 F v1 n (m_X5_isInSet (upd (a_X5_isInSet u) y3.toNatClampNeg 1) u) (v2 + 1)) else none)))) else (s_X5_findFrom_b50 F u)))
theorem e_X5_findFrom_l9 (F : Nat) (v1 : Int32) (n : Nat) (u : S_X5) (v2 : Int32) : s_X5_findFrom_l9 F v1 (n + 1) u v2 = if 4 ≤ v2 then (s_X5_findFrom_b50 F u) else ((s_X5_lives F u v1).bind fun y1 => (if y1 then ((s_X5_slotOf F u v1 v2).bind fun y2 => (if y2 = (-1) then (s_X5_findFrom_l9 F v1 n u (v2 + 1)) else ((s_X5_slotOf F u v1 v2).bind fun y3 => (if lf_ix y3 24 then (s_X5_findFrom_l9 F v1 n (m_X5_isInSet (upd (a_X5_isInSet u) y3.toNatClampNeg 1) u) (v2 + 1)) else none)))) else (s_X5_findFrom_b50 F u))) := rfl
set_option maxHeartbeats 4000000 in
set_option maxRecDepth 20000 in
theorem t_X5_findFrom_l9 (F : Nat) (v1 : Int32) (x : S_X5)  : ∀ (n : Nat) (u : S_X5) (v2 : Int32), s_X5_findFrom_l9 F v1 n u v2 = some x → ev_V mm_X5_findFrom none (ev_XR mm_X5_findFrom (fun r w => r = none ∧ w = W_X5 x)) 9 [some (.ref 0), some (.int v1), some (.int v2)] [] (W_X5 u) 0 0 := by
  intro n
  induction n with
  | zero => intro u v2 hR; cases hR
  | succ n hk9 =>
    intro u v2 hR
    unfold s_X5_findFrom_l9 at hR
    refine ev_run (cs := []) (pc' := 11) (L' := [some (.ref 0), some (.int v1), some (.int v2)]) (st' := [.int 4, .int v2]) (w' := W_X5 u) [] 2 (by with_unfolding_all rfl) trivial ?_
    refine ev_br rfl rfl (fun h1 => ?_) (fun h1 => ?_)
    · replace hR := lf_t h1 hR
      exact ev_to2 (t_X5_findFrom_b50 F u _ hR) ⟨rfl, trivial⟩ rfl rfl
    · replace hR := lf_f h1 hR
      refine ev_run (cs := []) (pc' := 16) (L' := [some (.ref 0), some (.int v1), some (.int v2)]) (st' := [.int v1, .ref 0]) (w' := W_X5 u) [] 2 (by with_unfolding_all rfl) trivial ?_
      obtain ⟨y1, h2, hR⟩ := lf_b hR
      refine ev_callV1 0 (t_X5_lives F u v1 _ h2) cv_X5_lives ml_X5_54 rfl rfl rfl (Nat.le_of_ble_eq_true rfl) (by with_unfolding_all rfl) (Nat.le_of_ble_eq_true rfl) ⟨Nat.le_of_ble_eq_true rfl, Nat.le_of_ble_eq_true rfl⟩ ⟨Nat.le_refl _, Nat.le_refl _⟩ ?_ ?_
      · rintro r w ⟨rfl, rfl⟩; rfl
      rintro r w ⟨rfl, rfl⟩
      refine ev_nx (pc' := 19) (st' := [.int (ev_b y1)]) (w' := W_X5 u) rfl rfl (by with_unfolding_all rfl) rfl rfl ?_
      refine ev_br rfl rfl (fun h3 => ?_) (fun h3 => ?_)
      · replace hR := lf_z0 h3 hR
        exact ev_to2 (t_X5_findFrom_b50 F u _ hR) ⟨rfl, trivial⟩ rfl rfl
      · replace hR := lf_z1 h3 hR
        refine ev_run (cs := []) (pc' := 25) (L' := [some (.ref 0), some (.int v1), some (.int v2)]) (st' := [.int v2, .int v1, .ref 0]) (w' := W_X5 u) [] 3 (by with_unfolding_all rfl) trivial ?_
        obtain ⟨y2, h4, hR⟩ := lf_b hR
        refine ev_callV1 0 (t_X5_slotOf F u v1 v2 _ h4) cv_X5_slotOf ml_X5_58 rfl rfl rfl (Nat.le_of_ble_eq_true rfl) (by with_unfolding_all rfl) (Nat.le_of_ble_eq_true rfl) ⟨Nat.le_of_ble_eq_true rfl, Nat.le_of_ble_eq_true rfl⟩ ⟨Nat.le_refl _, Nat.le_refl _⟩ ?_ ?_
        · rintro r w ⟨rfl, rfl⟩; rfl
        rintro r w ⟨rfl, rfl⟩
        refine ev_nx (pc' := 28) (st' := [.int y2]) (w' := W_X5 u) rfl rfl (by with_unfolding_all rfl) rfl rfl ?_
        refine ev_run (cs := []) (pc' := 29) (L' := [some (.ref 0), some (.int v1), some (.int v2)]) (st' := [.int (-1), .int y2]) (w' := W_X5 u) [] 1 (by with_unfolding_all rfl) trivial ?_
        refine ev_br rfl rfl (fun h5 => ?_) (fun h5 => ?_)
        · replace hR := lf_t h5 hR
          refine ev_run (cs := []) (pc' := 9) (L' := [some (.ref 0), some (.int v1), some (.int (v2 + 1))]) (st' := []) (w' := W_X5 u) [] 2 (by with_unfolding_all rfl) trivial ?_
          exact ev_to2 (hk9 _ _ hR) ⟨rfl, rfl, rfl, trivial⟩ rfl rfl
        · replace hR := lf_f h5 hR
          refine ev_run (cs := []) (pc' := 39) (L' := [some (.ref 0), some (.int v1), some (.int v2)]) (st' := [.int v2, .int v1, .ref 0, .ref 6]) (w' := W_X5 u) [] 5 (by with_unfolding_all rfl) trivial ?_
          obtain ⟨y3, h6, hR⟩ := lf_b hR
          refine ev_callV1 0 (t_X5_slotOf F u v1 v2 _ h6) cv_X5_slotOf ml_X5_58 rfl rfl rfl (Nat.le_of_ble_eq_true rfl) (by with_unfolding_all rfl) (Nat.le_of_ble_eq_true rfl) ⟨Nat.le_of_ble_eq_true rfl, Nat.le_of_ble_eq_true rfl⟩ ⟨Nat.le_refl _, Nat.le_refl _⟩ ?_ ?_
          · rintro r w ⟨rfl, rfl⟩; rfl
          rintro r w ⟨rfl, rfl⟩
          refine ev_nx (pc' := 42) (st' := [.int y3, .ref 6]) (w' := W_X5 u) rfl rfl (by with_unfolding_all rfl) rfl rfl ?_
          obtain ⟨h7, hR⟩ := lf_g hR
          refine ev_run (cs := [lf_ix y3 24]) (pc' := 9) (L' := [some (.ref 0), some (.int v1), some (.int (v2 + 1))]) (st' := []) (w' := W_X5 (m_X5_isInSet (upd (a_X5_isInSet u) y3.toNatClampNeg 1) u)) [] 4 (by with_unfolding_all rfl) (h7) ?_
          exact ev_to2 (hk9 _ _ hR) ⟨rfl, rfl, rfl, trivial⟩ rfl rfl

def s_X5_findFrom (F : Nat) (u : S_X5) (v1 : Int32) : Option S_X5 := (s_X5_clear F 24 (a_X5_isInSet u)).bind fun y1 => (s_X5_findFrom_l9 F v1 F (m_X5_isInSet y1 u) 0)
set_option maxHeartbeats 4000000 in
set_option maxRecDepth 20000 in
theorem t_X5_findFrom (F : Nat) (u : S_X5) (v1 : Int32) (x : S_X5) (hR : s_X5_findFrom F u v1 = some x) : ev_A yX5_findFrom mm_X5_findFrom none [.ref 0, .int v1] (W_X5 u) (fun r w => r = none ∧ w = W_X5 x) := by
  unfold s_X5_findFrom at hR
  refine ev_start ok_X5_findFrom (by decide +kernel) rfl rfl (Nat.le_of_ble_eq_true rfl) ?_
  refine ev_run (cs := []) (pc' := 4) (L' := [some (.ref 0), some (.int v1), none]) (st' := [.ref 6]) (w' := W_X5 u) [] 2 (by with_unfolding_all rfl) trivial ?_
  obtain ⟨y1, h1, hR⟩ := lf_b hR
  refine ev_callS1 6 (t_X5_clear F 24 (a_X5_isInSet u) _ h1) cs_X5_clear ml_X5_64 rfl rfl rfl (Nat.le_of_ble_eq_true rfl) (by with_unfolding_all rfl) (Nat.le_of_ble_eq_true rfl) ⟨Nat.le_of_ble_eq_true rfl, Nat.le_of_ble_eq_true rfl⟩ ⟨Nat.le_refl _, Nat.le_refl _⟩ ?_ ?_
  · rintro r w ⟨rfl, rfl⟩; rfl
  rintro r w ⟨rfl, rfl⟩
  refine ev_nx (pc' := 7) (st' := []) (w' := W_X5 (m_X5_isInSet y1 u)) rfl rfl (by with_unfolding_all rfl) rfl rfl ?_
  refine ev_run (cs := []) (pc' := 9) (L' := [some (.ref 0), some (.int v1), some (.int 0)]) (st' := []) (w' := W_X5 (m_X5_isInSet y1 u)) [] 2 (by with_unfolding_all rfl) trivial ?_
  exact ev_to2 (t_X5_findFrom_l9 F v1 _ F (m_X5_isInSet y1 u) 0 hR) ⟨rfl, rfl, rfl, trivial⟩ rfl rfl

def s_X5_ringOf_l41 (F : Nat) (v1 : Int32) (v2 : Int32) : Nat → S_X5 → Int32 → Int32 → Option (Int32 × S_X5)
  | 0 => fun _ _ _ => none
  | n + 1 => fun u v3 v4 => if ((a_X5_state u) (1 : Int32).toNatClampNeg) ≤ v4 then (some (v3, u)) else (if ((v2 >>> (v4 &&& 31)) &&& 1) = 1 then ((s_X5_findFrom F u v4).bind fun y1 => (if lf_ix v1 24 then (s_X5_ringOf_l41 F v1 v2 n y1 (v3 ||| (((a_X5_isInSet y1) v1.toNatClampNeg) <<< (v4 &&& 31))) (v4 + 1)) else none)) else (s_X5_ringOf_l41 F v1 v2 n u v3 (v4 + 1)))
theorem e_X5_ringOf_l41 (F : Nat) (v1 : Int32) (v2 : Int32) (n : Nat) (u : S_X5) (v3 : Int32) (v4 : Int32) : s_X5_ringOf_l41 F v1 v2 (n + 1) u v3 v4 = if ((a_X5_state u) (1 : Int32).toNatClampNeg) ≤ v4 then (some (v3, u)) else (if ((v2 >>> (v4 &&& 31)) &&& 1) = 1 then ((s_X5_findFrom F u v4).bind fun y1 => (if lf_ix v1 24 then (s_X5_ringOf_l41 F v1 v2 n y1 (v3 ||| (((a_X5_isInSet y1) v1.toNatClampNeg) <<< (v4 &&& 31))) (v4 + 1)) else none)) else (s_X5_ringOf_l41 F v1 v2 n u v3 (v4 + 1))) := rfl
set_option maxHeartbeats 4000000 in
set_option maxRecDepth 20000 in
theorem t_X5_ringOf_l41 (F : Nat) (v1 : Int32) (v2 : Int32) (x : (Int32 × S_X5))  : ∀ (n : Nat) (u : S_X5) (v3 : Int32) (v4 : Int32), s_X5_ringOf_l41 F v1 v2 n u v3 v4 = some x → ev_V mm_X5_ringOf none (ev_XR mm_X5_ringOf (fun r w => r = some (.int x.1) ∧ w = W_X5 x.2)) 41 [some (.ref 0), some (.int v1), some (.int v2), some (.int v3), some (.int v4)] [] (W_X5 u) 0 0 := by
  intro n
  induction n with
  | zero => intro u v3 v4 hR; cases hR
  | succ n hk41 =>
    intro u v3 v4 hR
    unfold s_X5_ringOf_l41 at hR
    refine ev_run (cs := [lf_ix 1 20377]) (pc' := 49) (L' := [some (.ref 0), some (.int v1), some (.int v2), some (.int v3), some (.int v4)]) (st' := [.int ((a_X5_state u) (1 : Int32).toNatClampNeg), .int v4]) (w' := W_X5 u) [] 5 (by with_unfolding_all rfl) (by show ¬ _; decide) ?_
    refine ev_br rfl rfl (fun h1 => ?_) (fun h1 => ?_)
    · replace hR := lf_t h1 hR
      refine ev_run (cs := []) (pc' := 87) (L' := [some (.ref 0), some (.int v1), some (.int v2), some (.int v3), some (.int v4)]) (st' := [.int v3]) (w' := W_X5 u) [] 1 (by with_unfolding_all rfl) trivial ?_
      cases hR
      exact ev_exit ⟨_, _, rfl, ⟨rfl, Or.inl rfl⟩, ⟨rfl, rfl⟩, Nat.le_refl _, Nat.le_refl _⟩
    · replace hR := lf_f h1 hR
      refine ev_run (cs := []) (pc' := 59) (L' := [some (.ref 0), some (.int v1), some (.int v2), some (.int v3), some (.int v4)]) (st' := [.int 1, .int ((v2 >>> (v4 &&& 31)) &&& 1)]) (w' := W_X5 u) [] 6 (by with_unfolding_all rfl) trivial ?_
      refine ev_br rfl rfl (fun h2 => ?_) (fun h2 => ?_)
      · replace hR := lf_f h2 hR
        refine ev_run (cs := []) (pc' := 41) (L' := [some (.ref 0), some (.int v1), some (.int v2), some (.int v3), some (.int (v4 + 1))]) (st' := []) (w' := W_X5 u) [] 2 (by with_unfolding_all rfl) trivial ?_
        exact ev_to2 (hk41 _ _ _ hR) ⟨rfl, rfl, rfl, rfl, rfl, trivial⟩ rfl rfl
      · replace hR := lf_t h2 hR
        refine ev_run (cs := []) (pc' := 65) (L' := [some (.ref 0), some (.int v1), some (.int v2), some (.int v3), some (.int v4)]) (st' := [.int v4, .ref 0]) (w' := W_X5 u) [] 2 (by with_unfolding_all rfl) trivial ?_
        obtain ⟨y1, h3, hR⟩ := lf_b hR
        refine ev_callV1 0 (t_X5_findFrom F u v4 _ h3) cv_X5_findFrom ml_X5_242 rfl rfl rfl (Nat.le_of_ble_eq_true rfl) (by with_unfolding_all rfl) (Nat.le_of_ble_eq_true rfl) ⟨Nat.le_of_ble_eq_true rfl, Nat.le_of_ble_eq_true rfl⟩ ⟨Nat.le_refl _, Nat.le_refl _⟩ ?_ ?_
        · rintro r w ⟨rfl, rfl⟩; rfl
        rintro r w ⟨rfl, rfl⟩
        refine ev_nx (pc' := 68) (st' := []) (w' := W_X5 y1) rfl rfl (by with_unfolding_all rfl) rfl rfl ?_
        obtain ⟨h4, hR⟩ := lf_g hR
        refine ev_run (cs := [lf_ix v1 24]) (pc' := 41) (L' := [some (.ref 0), some (.int v1), some (.int v2), some (.int (v3 ||| (((a_X5_isInSet y1) v1.toNatClampNeg) <<< (v4 &&& 31)))), some (.int (v4 + 1))]) (st' := []) (w' := W_X5 y1) [] 11 (by with_unfolding_all rfl) (h4) ?_
        exact ev_to2 (hk41 _ _ _ hR) ⟨rfl, rfl, rfl, rfl, rfl, trivial⟩ rfl rfl

def s_X5_ringOf_l9 (F : Nat) (u : S_X5) (v1 : Int32) : Nat → Int32 → Int32 → Option (Int32 × S_X5)
  | 0 => fun _ _ => none
  | n + 1 => fun v2 v3 => if ((a_X5_state u) (1 : Int32).toNatClampNeg) ≤ v3 then (s_X5_ringOf_l41 F v1 v2 F u 0 0) else (if lf_ix v3 24 then (s_X5_ringOf_l9 F u v1 n (v2 ||| (((a_X5_isInSet u) v3.toNatClampNeg) <<< (v3 &&& 31))) (v3 + 1)) else none)
theorem e_X5_ringOf_l9 (F : Nat) (u : S_X5) (v1 : Int32) (n : Nat) (v2 : Int32) (v3 : Int32) : s_X5_ringOf_l9 F u v1 (n + 1) v2 v3 = if ((a_X5_state u) (1 : Int32).toNatClampNeg) ≤ v3 then (s_X5_ringOf_l41 F v1 v2 F u 0 0) else (if lf_ix v3 24 then (s_X5_ringOf_l9 F u v1 n (v2 ||| (((a_X5_isInSet u) v3.toNatClampNeg) <<< (v3 &&& 31))) (v3 + 1)) else none) := rfl
set_option maxHeartbeats 4000000 in
set_option maxRecDepth 20000 in
theorem t_X5_ringOf_l9 (F : Nat) (u : S_X5) (v1 : Int32) (x : (Int32 × S_X5))  : ∀ (n : Nat) (v2 : Int32) (v3 : Int32), s_X5_ringOf_l9 F u v1 n v2 v3 = some x → ev_V mm_X5_ringOf none (ev_XR mm_X5_ringOf (fun r w => r = some (.int x.1) ∧ w = W_X5 x.2)) 9 [some (.ref 0), some (.int v1), some (.int v2), some (.int v3), none] [] (W_X5 u) 0 0 := by
  intro n
  induction n with
  | zero => intro v2 v3 hR; cases hR
  | succ n hk9 =>
    intro v2 v3 hR
    unfold s_X5_ringOf_l9 at hR
    refine ev_run (cs := [lf_ix 1 20377]) (pc' := 16) (L' := [some (.ref 0), some (.int v1), some (.int v2), some (.int v3), none]) (st' := [.int ((a_X5_state u) (1 : Int32).toNatClampNeg), .int v3]) (w' := W_X5 u) [] 5 (by with_unfolding_all rfl) (by show ¬ _; decide) ?_
    refine ev_br rfl rfl (fun h1 => ?_) (fun h1 => ?_)
    · replace hR := lf_t h1 hR
      refine ev_run (cs := []) (pc' := 41) (L' := [some (.ref 0), some (.int v1), some (.int v2), some (.int 0), some (.int 0)]) (st' := []) (w' := W_X5 u) [] 4 (by with_unfolding_all rfl) trivial ?_
      exact ev_to2 (t_X5_ringOf_l41 F v1 v2 _ F u 0 0 hR) ⟨rfl, rfl, rfl, rfl, rfl, trivial⟩ rfl rfl
    · replace hR := lf_f h1 hR
      obtain ⟨h2, hR⟩ := lf_g hR
      refine ev_run (cs := [lf_ix v3 24]) (pc' := 9) (L' := [some (.ref 0), some (.int v1), some (.int (v2 ||| (((a_X5_isInSet u) v3.toNatClampNeg) <<< (v3 &&& 31)))), some (.int (v3 + 1)), none]) (st' := []) (w' := W_X5 u) [] 11 (by with_unfolding_all rfl) (h2) ?_
      exact ev_to2 (hk9 _ _ hR) ⟨rfl, rfl, rfl, rfl, trivial⟩ rfl rfl

def s_X5_ringOf (F : Nat) (u : S_X5) (v1 : Int32) : Option (Int32 × S_X5) := (s_X5_findFrom F u v1).bind fun y1 => (s_X5_ringOf_l9 F y1 v1 F 0 0)
set_option maxHeartbeats 4000000 in
set_option maxRecDepth 20000 in
theorem t_X5_ringOf (F : Nat) (u : S_X5) (v1 : Int32) (x : (Int32 × S_X5)) (hR : s_X5_ringOf F u v1 = some x) : ev_A yX5_ringOf mm_X5_ringOf none [.ref 0, .int v1] (W_X5 u) (fun r w => r = some (.int x.1) ∧ w = W_X5 x.2) := by
  unfold s_X5_ringOf at hR
  refine ev_start ok_X5_ringOf (by decide +kernel) rfl rfl (Nat.le_of_ble_eq_true rfl) ?_
  refine ev_run (cs := []) (pc' := 2) (L' := [some (.ref 0), some (.int v1), none, none, none]) (st' := [.int v1, .ref 0]) (w' := W_X5 u) [] 2 (by with_unfolding_all rfl) trivial ?_
  obtain ⟨y1, h1, hR⟩ := lf_b hR
  refine ev_callV1 0 (t_X5_findFrom F u v1 _ h1) cv_X5_findFrom ml_X5_242 rfl rfl rfl (Nat.le_of_ble_eq_true rfl) (by with_unfolding_all rfl) (Nat.le_of_ble_eq_true rfl) ⟨Nat.le_of_ble_eq_true rfl, Nat.le_of_ble_eq_true rfl⟩ ⟨Nat.le_refl _, Nat.le_refl _⟩ ?_ ?_
  · rintro r w ⟨rfl, rfl⟩; rfl
  rintro r w ⟨rfl, rfl⟩
  refine ev_nx (pc' := 5) (st' := []) (w' := W_X5 y1) rfl rfl (by with_unfolding_all rfl) rfl rfl ?_
  refine ev_run (cs := []) (pc' := 9) (L' := [some (.ref 0), some (.int v1), some (.int 0), some (.int 0), none]) (st' := []) (w' := W_X5 y1) [] 4 (by with_unfolding_all rfl) trivial ?_
  exact ev_to2 (t_X5_ringOf_l9 F y1 v1 _ F 0 0 hR) ⟨rfl, rfl, rfl, rfl, trivial⟩ rfl rfl

def s_X5_ring_b14 (F : Nat) (u : S_X5) (v1 : Int32) (p1 : Int32) : Option (Int32 × S_X5) := if p1 ≤ 0 then ((s_X5_ringOf F (m_X5_thrown p1 u) v1).bind fun y1 => (some (y1.1, y1.2))) else (some (0, m_X5_thrown p1 u))
set_option maxHeartbeats 4000000 in
set_option maxRecDepth 20000 in
theorem t_X5_ring_b14 (F : Nat) (u : S_X5) (v1 : Int32) (p1 : Int32) (x : (Int32 × S_X5))  (hR : s_X5_ring_b14 F u v1 p1 = some x) : ev_V mm_X5_ring none (ev_XR mm_X5_ring (fun r w => r = some (.int x.1) ∧ w = W_X5 x.2)) 14 [some (.ref 0), some (.int v1)] [.int p1, .ref 0] (W_X5 u) 0 0 := by
  unfold s_X5_ring_b14 at hR
  refine ev_run (cs := []) (pc' := 21) (L' := [some (.ref 0), some (.int v1)]) (st' := [.int p1]) (w' := W_X5 (m_X5_thrown p1 u)) [] 3 (by with_unfolding_all rfl) trivial ?_
  refine ev_br rfl rfl (fun h1 => ?_) (fun h1 => ?_)
  · replace hR := lf_t h1 hR
    refine ev_run (cs := []) (pc' := 30) (L' := [some (.ref 0), some (.int v1)]) (st' := [.int v1, .ref 0]) (w' := W_X5 (m_X5_thrown p1 u)) [] 2 (by with_unfolding_all rfl) trivial ?_
    obtain ⟨y1, h2, hR⟩ := lf_b hR
    refine ev_callV1 0 (t_X5_ringOf F (m_X5_thrown p1 u) v1 _ h2) cv_X5_ringOf ml_X5_245 rfl rfl rfl (Nat.le_of_ble_eq_true rfl) (by with_unfolding_all rfl) (Nat.le_of_ble_eq_true rfl) ⟨Nat.le_of_ble_eq_true rfl, Nat.le_of_ble_eq_true rfl⟩ ⟨Nat.le_refl _, Nat.le_refl _⟩ ?_ ?_
    · rintro r w ⟨rfl, rfl⟩; rfl
    rintro r w ⟨rfl, rfl⟩
    refine ev_nx (pc' := 33) (st' := [.int y1.1]) (w' := W_X5 y1.2) rfl rfl (by with_unfolding_all rfl) rfl rfl ?_
    cases hR
    exact ev_exit ⟨_, _, rfl, ⟨rfl, Or.inl rfl⟩, ⟨rfl, rfl⟩, Nat.le_refl _, Nat.le_refl _⟩
  · replace hR := lf_f h1 hR
    refine ev_run (cs := []) (pc' := 33) (L' := [some (.ref 0), some (.int v1)]) (st' := [.int 0]) (w' := W_X5 (m_X5_thrown p1 u)) [] 2 (by with_unfolding_all rfl) trivial ?_
    cases hR
    exact ev_exit ⟨_, _, rfl, ⟨rfl, Or.inl rfl⟩, ⟨rfl, rfl⟩, Nat.le_refl _, Nat.le_refl _⟩

def s_X5_ring (F : Nat) (u : S_X5) (v1 : Int32) : Option (Int32 × S_X5) := (s_X5_isThing F u v1).bind fun y1 => (if y1 then (s_X5_ring_b14 F u v1 0) else (s_X5_ring_b14 F u v1 1))
set_option maxHeartbeats 4000000 in
set_option maxRecDepth 20000 in
theorem t_X5_ring (F : Nat) (u : S_X5) (v1 : Int32) (x : (Int32 × S_X5)) (hR : s_X5_ring F u v1 = some x) : ev_A yX5_ring mm_X5_ring none [.ref 0, .int v1] (W_X5 u) (fun r w => r = some (.int x.1) ∧ w = W_X5 x.2) := by
  unfold s_X5_ring at hR
  refine ev_start ok_X5_ring (by decide +kernel) rfl rfl (Nat.le_of_ble_eq_true rfl) ?_
  refine ev_run (cs := []) (pc' := 3) (L' := [some (.ref 0), some (.int v1)]) (st' := [.int v1, .ref 0, .ref 0]) (w' := W_X5 u) [] 3 (by with_unfolding_all rfl) trivial ?_
  obtain ⟨y1, h1, hR⟩ := lf_b hR
  refine ev_callV1 0 (t_X5_isThing F u v1 _ h1) cv_X5_isThing ml_X5_114 rfl rfl rfl (Nat.le_of_ble_eq_true rfl) (by with_unfolding_all rfl) (Nat.le_of_ble_eq_true rfl) ⟨Nat.le_of_ble_eq_true rfl, Nat.le_of_ble_eq_true rfl⟩ ⟨Nat.le_refl _, Nat.le_refl _⟩ ?_ ?_
  · rintro r w ⟨rfl, rfl⟩; rfl
  rintro r w ⟨rfl, rfl⟩
  refine ev_nx (pc' := 6) (st' := [.int (ev_b y1), .ref 0]) (w' := W_X5 u) rfl rfl (by with_unfolding_all rfl) rfl rfl ?_
  refine ev_br rfl rfl (fun h2 => ?_) (fun h2 => ?_)
  · replace hR := lf_z0 h2 hR
    refine ev_run (cs := []) (pc' := 14) (L' := [some (.ref 0), some (.int v1)]) (st' := [.int 1, .ref 0]) (w' := W_X5 u) [] 1 (by with_unfolding_all rfl) trivial ?_
    exact ev_to2 (t_X5_ring_b14 F u v1 1 _ hR) ⟨rfl, rfl, trivial⟩ rfl rfl
  · replace hR := lf_z1 h2 hR
    refine ev_run (cs := []) (pc' := 14) (L' := [some (.ref 0), some (.int v1)]) (st' := [.int 0, .ref 0]) (w' := W_X5 u) [] 2 (by with_unfolding_all rfl) trivial ?_
    exact ev_to2 (t_X5_ring_b14 F u v1 0 _ hR) ⟨rfl, rfl, trivial⟩ rfl rfl

def s_X5_cut_b128 (F : Nat) (u : S_X5) (v1 : Int32) (v3 : Int32) (v4 : Int32) : Option (Int32 × S_X5) := if v1 = 0 then (some (v3, u)) else (some (v4, u))
set_option maxHeartbeats 4000000 in
set_option maxRecDepth 20000 in
theorem t_X5_cut_b128 (F : Nat) (u : S_X5) (v1 : Int32) (v3 : Int32) (v4 : Int32) (x : (Int32 × S_X5))  (hR : s_X5_cut_b128 F u v1 v3 v4 = some x) : ev_V mm_X5_cut none (ev_XR mm_X5_cut (fun r w => r = some (.int x.1) ∧ w = W_X5 x.2)) 128 [some (.ref 0), some (.int v1), none, some (.int v3), some (.int v4), none, none, none, none] [] (W_X5 u) 0 0 := by
  unfold s_X5_cut_b128 at hR
  refine ev_run (cs := []) (pc' := 129) (L' := [some (.ref 0), some (.int v1), none, some (.int v3), some (.int v4), none, none, none, none]) (st' := [.int v1]) (w' := W_X5 u) [] 1 (by with_unfolding_all rfl) trivial ?_
  refine ev_br rfl rfl (fun h1 => ?_) (fun h1 => ?_)
  · replace hR := lf_f h1 hR
    refine ev_run (cs := []) (pc' := 138) (L' := [some (.ref 0), some (.int v1), none, some (.int v3), some (.int v4), none, none, none, none]) (st' := [.int v4]) (w' := W_X5 u) [] 1 (by with_unfolding_all rfl) trivial ?_
    cases hR
    exact ev_exit ⟨_, _, rfl, ⟨rfl, Or.inl rfl⟩, ⟨rfl, rfl⟩, Nat.le_refl _, Nat.le_refl _⟩
  · replace hR := lf_t h1 hR
    refine ev_run (cs := []) (pc' := 138) (L' := [some (.ref 0), some (.int v1), none, some (.int v3), some (.int v4), none, none, none, none]) (st' := [.int v3]) (w' := W_X5 u) [] 2 (by with_unfolding_all rfl) trivial ?_
    cases hR
    exact ev_exit ⟨_, _, rfl, ⟨rfl, Or.inl rfl⟩, ⟨rfl, rfl⟩, Nat.le_refl _, Nat.le_refl _⟩

def s_X5_cut_b105 (F : Nat) (k13 : S_X5 → Int32 → Int32 → Int32 → Option (Int32 × S_X5)) (u : S_X5) (v1 : Int32) (v2 : Int32) (v4 : Int32) (v5 : Int32) (v8 : Int32) (p0 : Int32) : Option (Int32 × S_X5) := if v8 ≤ v4 then (k13 u p0 v4 (v5 + 1)) else (k13 u p0 v8 (v5 + 1))
set_option maxHeartbeats 4000000 in
set_option maxRecDepth 20000 in
theorem t_X5_cut_b105 (F : Nat) (k13 : S_X5 → Int32 → Int32 → Int32 → Option (Int32 × S_X5)) (u : S_X5) (v1 : Int32) (v2 : Int32) (v4 : Int32) (v5 : Int32) (v8 : Int32) (p0 : Int32) (x : (Int32 × S_X5)) (hk13 : ∀ (u : S_X5) (v3 : Int32) (v4 : Int32) (v5 : Int32), k13 u v3 v4 v5 = some x → ev_V mm_X5_cut none (ev_XR mm_X5_cut (fun r w => r = some (.int x.1) ∧ w = W_X5 x.2)) 13 [some (.ref 0), some (.int v1), some (.int v2), some (.int v3), some (.int v4), some (.int v5), none, none, none] [] (W_X5 u) 0 0) (hR : s_X5_cut_b105 F k13 u v1 v2 v4 v5 v8 p0 = some x) : ev_V mm_X5_cut none (ev_XR mm_X5_cut (fun r w => r = some (.int x.1) ∧ w = W_X5 x.2)) 105 [some (.ref 0), some (.int v1), some (.int v2), none, some (.int v4), some (.int v5), none, none, some (.int v8)] [.int p0] (W_X5 u) 0 0 := by
  unfold s_X5_cut_b105 at hR
  refine ev_run (cs := []) (pc' := 110) (L' := [some (.ref 0), some (.int v1), some (.int v2), some (.int p0), some (.int v4), some (.int v5), none, none, some (.int v8)]) (st' := [.int v4, .int v8]) (w' := W_X5 u) [] 3 (by with_unfolding_all rfl) trivial ?_
  refine ev_br rfl rfl (fun h1 => ?_) (fun h1 => ?_)
  · replace hR := lf_t h1 hR
    refine ev_run (cs := []) (pc' := 13) (L' := [some (.ref 0), some (.int v1), some (.int v2), some (.int p0), some (.int v4), some (.int (v5 + 1)), none, none, some (.int v8)]) (st' := []) (w' := W_X5 u) [] 4 (by with_unfolding_all rfl) trivial ?_
    exact ev_to2 (hk13 _ _ _ _ hR) ⟨rfl, rfl, rfl, rfl, rfl, rfl, trivial⟩ rfl rfl
  · replace hR := lf_f h1 hR
    refine ev_run (cs := []) (pc' := 13) (L' := [some (.ref 0), some (.int v1), some (.int v2), some (.int p0), some (.int v8), some (.int (v5 + 1)), none, none, some (.int v8)]) (st' := []) (w' := W_X5 u) [] 5 (by with_unfolding_all rfl) trivial ?_
    exact ev_to2 (hk13 _ _ _ _ hR) ⟨rfl, rfl, rfl, rfl, rfl, rfl, trivial⟩ rfl rfl

def s_X5_cut_b50 (F : Nat) (k13 : S_X5 → Int32 → Int32 → Int32 → Option (Int32 × S_X5)) (u : S_X5) (v1 : Int32) (v2 : Int32) (v3 : Int32) (v4 : Int32) (v5 : Int32) (p0 : Int32) : Option (Int32 × S_X5) := if lf_ix p0 20377 then (if ((a_X5_state u) p0.toNatClampNeg) = (-1) then (k13 u v3 v4 (v5 + 1)) else (if lf_ix p0 20377 then ((s_X5_findReached F (m_X5_state (upd (a_X5_state u) p0.toNatClampNeg (-1)) u)).bind fun y1 => (if lf_ix p0 20377 then (if (v2 - y1.1) ≤ v4 then (s_X5_cut_b105 F k13 (m_X5_state (upd (a_X5_state y1.2) p0.toNatClampNeg ((a_X5_state u) p0.toNatClampNeg)) y1.2) v1 v2 v4 v5 (v2 - y1.1) v3) else (s_X5_cut_b105 F k13 (m_X5_state (upd (a_X5_state y1.2) p0.toNatClampNeg ((a_X5_state u) p0.toNatClampNeg)) y1.2) v1 v2 v4 v5 (v2 - y1.1) v5)) else none)) else none)) else none
set_option maxHeartbeats 4000000 in
set_option maxRecDepth 20000 in
theorem t_X5_cut_b50 (F : Nat) (k13 : S_X5 → Int32 → Int32 → Int32 → Option (Int32 × S_X5)) (u : S_X5) (v1 : Int32) (v2 : Int32) (v3 : Int32) (v4 : Int32) (v5 : Int32) (p0 : Int32) (x : (Int32 × S_X5)) (hk13 : ∀ (u : S_X5) (v3 : Int32) (v4 : Int32) (v5 : Int32), k13 u v3 v4 v5 = some x → ev_V mm_X5_cut none (ev_XR mm_X5_cut (fun r w => r = some (.int x.1) ∧ w = W_X5 x.2)) 13 [some (.ref 0), some (.int v1), some (.int v2), some (.int v3), some (.int v4), some (.int v5), none, none, none] [] (W_X5 u) 0 0) (hR : s_X5_cut_b50 F k13 u v1 v2 v3 v4 v5 p0 = some x) : ev_V mm_X5_cut none (ev_XR mm_X5_cut (fun r w => r = some (.int x.1) ∧ w = W_X5 x.2)) 50 [some (.ref 0), some (.int v1), some (.int v2), some (.int v3), some (.int v4), some (.int v5), none, none, none] [.int p0] (W_X5 u) 0 0 := by
  unfold s_X5_cut_b50 at hR
  obtain ⟨h1, hR⟩ := lf_g hR
  refine ev_run (cs := [lf_ix p0 20377]) (pc' := 64) (L' := [some (.ref 0), some (.int v1), some (.int v2), some (.int v3), some (.int v4), some (.int v5), some (.int p0), some (.int ((a_X5_state u) p0.toNatClampNeg)), none]) (st' := [.int (-1), .int ((a_X5_state u) p0.toNatClampNeg)]) (w' := W_X5 u) [] 8 (by with_unfolding_all rfl) (h1) ?_
  refine ev_br rfl rfl (fun h2 => ?_) (fun h2 => ?_)
  · replace hR := lf_t h2 hR
    refine ev_run (cs := []) (pc' := 13) (L' := [some (.ref 0), some (.int v1), some (.int v2), some (.int v3), some (.int v4), some (.int (v5 + 1)), some (.int p0), some (.int ((a_X5_state u) p0.toNatClampNeg)), none]) (st' := []) (w' := W_X5 u) [] 2 (by with_unfolding_all rfl) trivial ?_
    exact ev_to2 (hk13 _ _ _ _ hR) ⟨rfl, rfl, rfl, rfl, rfl, rfl, trivial⟩ rfl rfl
  · replace hR := lf_f h2 hR
    obtain ⟨h3, hR⟩ := lf_g hR
    refine ev_run (cs := [lf_ix p0 20377]) (pc' := 77) (L' := [some (.ref 0), some (.int v1), some (.int v2), some (.int v3), some (.int v4), some (.int v5), some (.int p0), some (.int ((a_X5_state u) p0.toNatClampNeg)), none]) (st' := [.ref 0, .int v2]) (w' := W_X5 (m_X5_state (upd (a_X5_state u) p0.toNatClampNeg (-1)) u)) [] 7 (by with_unfolding_all rfl) (h3) ?_
    obtain ⟨y1, h4, hR⟩ := lf_b hR
    refine ev_callV1 0 (t_X5_findReached F (m_X5_state (upd (a_X5_state u) p0.toNatClampNeg (-1)) u) _ h4) cv_X5_findReached ml_X5_212 rfl rfl rfl (Nat.le_of_ble_eq_true rfl) (by with_unfolding_all rfl) (Nat.le_of_ble_eq_true rfl) ⟨Nat.le_of_ble_eq_true rfl, Nat.le_of_ble_eq_true rfl⟩ ⟨Nat.le_refl _, Nat.le_refl _⟩ ?_ ?_
    · rintro r w ⟨rfl, rfl⟩; rfl
    rintro r w ⟨rfl, rfl⟩
    refine ev_nx (pc' := 80) (st' := [.int y1.1, .int v2]) (w' := W_X5 y1.2) rfl rfl (by with_unfolding_all rfl) rfl rfl ?_
    obtain ⟨h5, hR⟩ := lf_g hR
    refine ev_run (cs := [lf_ix p0 20377]) (pc' := 96) (L' := [some (.ref 0), some (.int v1), some (.int v2), some (.int v3), some (.int v4), some (.int v5), some (.int p0), some (.int ((a_X5_state u) p0.toNatClampNeg)), some (.int (v2 - y1.1))]) (st' := [.int v4, .int (v2 - y1.1)]) (w' := W_X5 (m_X5_state (upd (a_X5_state y1.2) p0.toNatClampNeg ((a_X5_state u) p0.toNatClampNeg)) y1.2)) [] 9 (by with_unfolding_all rfl) (h5) ?_
    refine ev_br rfl rfl (fun h6 => ?_) (fun h6 => ?_)
    · replace hR := lf_t h6 hR
      refine ev_run (cs := []) (pc' := 105) (L' := [some (.ref 0), some (.int v1), some (.int v2), some (.int v3), some (.int v4), some (.int v5), some (.int p0), some (.int ((a_X5_state u) p0.toNatClampNeg)), some (.int (v2 - y1.1))]) (st' := [.int v3]) (w' := W_X5 (m_X5_state (upd (a_X5_state y1.2) p0.toNatClampNeg ((a_X5_state u) p0.toNatClampNeg)) y1.2)) [] 1 (by with_unfolding_all rfl) trivial ?_
      exact ev_to2 (t_X5_cut_b105 F k13 (m_X5_state (upd (a_X5_state y1.2) p0.toNatClampNeg ((a_X5_state u) p0.toNatClampNeg)) y1.2) v1 v2 v4 v5 (v2 - y1.1) v3 _ hk13 hR) ⟨rfl, rfl, rfl, rfl, rfl, rfl, trivial⟩ rfl rfl
    · replace hR := lf_f h6 hR
      refine ev_run (cs := []) (pc' := 105) (L' := [some (.ref 0), some (.int v1), some (.int v2), some (.int v3), some (.int v4), some (.int v5), some (.int p0), some (.int ((a_X5_state u) p0.toNatClampNeg)), some (.int (v2 - y1.1))]) (st' := [.int v5]) (w' := W_X5 (m_X5_state (upd (a_X5_state y1.2) p0.toNatClampNeg ((a_X5_state u) p0.toNatClampNeg)) y1.2)) [] 2 (by with_unfolding_all rfl) trivial ?_
      exact ev_to2 (t_X5_cut_b105 F k13 (m_X5_state (upd (a_X5_state y1.2) p0.toNatClampNeg ((a_X5_state u) p0.toNatClampNeg)) y1.2) v1 v2 v4 v5 (v2 - y1.1) v5 _ hk13 hR) ⟨rfl, rfl, rfl, rfl, rfl, rfl, trivial⟩ rfl rfl

def s_X5_cut_l13 (F : Nat) (v1 : Int32) (v2 : Int32) : Nat → S_X5 → Int32 → Int32 → Int32 → Option (Int32 × S_X5)
  | 0 => fun _ _ _ _ => none
  | n + 1 => fun u v3 v4 v5 => if (4 + (4 * ((a_X5_state u) (1 : Int32).toNatClampNeg))) ≤ v5 then (s_X5_cut_b128 F u v1 v3 v4) else (if 4 ≤ v5 then (s_X5_cut_b50 F (s_X5_cut_l13 F v1 v2 n) u v1 v2 v3 v4 v5 ((257 + v5) - 4)) else (s_X5_cut_b50 F (s_X5_cut_l13 F v1 v2 n) u v1 v2 v3 v4 v5 (13 + v5)))
theorem e_X5_cut_l13 (F : Nat) (v1 : Int32) (v2 : Int32) (n : Nat) (u : S_X5) (v3 : Int32) (v4 : Int32) (v5 : Int32) : s_X5_cut_l13 F v1 v2 (n + 1) u v3 v4 v5 = if (4 + (4 * ((a_X5_state u) (1 : Int32).toNatClampNeg))) ≤ v5 then (s_X5_cut_b128 F u v1 v3 v4) else (if 4 ≤ v5 then (s_X5_cut_b50 F (s_X5_cut_l13 F v1 v2 n) u v1 v2 v3 v4 v5 ((257 + v5) - 4)) else (s_X5_cut_b50 F (s_X5_cut_l13 F v1 v2 n) u v1 v2 v3 v4 v5 (13 + v5))) := rfl
set_option maxHeartbeats 4000000 in
set_option maxRecDepth 20000 in
theorem t_X5_cut_l13 (F : Nat) (v1 : Int32) (v2 : Int32) (x : (Int32 × S_X5))  : ∀ (n : Nat) (u : S_X5) (v3 : Int32) (v4 : Int32) (v5 : Int32), s_X5_cut_l13 F v1 v2 n u v3 v4 v5 = some x → ev_V mm_X5_cut none (ev_XR mm_X5_cut (fun r w => r = some (.int x.1) ∧ w = W_X5 x.2)) 13 [some (.ref 0), some (.int v1), some (.int v2), some (.int v3), some (.int v4), some (.int v5), none, none, none] [] (W_X5 u) 0 0 := by
  intro n
  induction n with
  | zero => intro u v3 v4 v5 hR; cases hR
  | succ n hk13 =>
    intro u v3 v4 v5 hR
    unfold s_X5_cut_l13 at hR
    refine ev_run (cs := [lf_ix 1 20377]) (pc' := 25) (L' := [some (.ref 0), some (.int v1), some (.int v2), some (.int v3), some (.int v4), some (.int v5), none, none, none]) (st' := [.int (4 + (4 * ((a_X5_state u) (1 : Int32).toNatClampNeg))), .int v5]) (w' := W_X5 u) [] 9 (by with_unfolding_all rfl) (by show ¬ _; decide) ?_
    refine ev_br rfl rfl (fun h1 => ?_) (fun h1 => ?_)
    · replace hR := lf_t h1 hR
      exact ev_to2 (t_X5_cut_b128 F u v1 v3 v4 _ hR) ⟨rfl, rfl, rfl, rfl, trivial⟩ rfl rfl
    · replace hR := lf_f h1 hR
      refine ev_run (cs := []) (pc' := 31) (L' := [some (.ref 0), some (.int v1), some (.int v2), some (.int v3), some (.int v4), some (.int v5), none, none, none]) (st' := [.int 4, .int v5]) (w' := W_X5 u) [] 2 (by with_unfolding_all rfl) trivial ?_
      refine ev_br rfl rfl (fun h2 => ?_) (fun h2 => ?_)
      · replace hR := lf_t h2 hR
        refine ev_run (cs := []) (pc' := 50) (L' := [some (.ref 0), some (.int v1), some (.int v2), some (.int v3), some (.int v4), some (.int v5), none, none, none]) (st' := [.int ((257 + v5) - 4)]) (w' := W_X5 u) [] 5 (by with_unfolding_all rfl) trivial ?_
        exact ev_to2 (t_X5_cut_b50 F (s_X5_cut_l13 F v1 v2 n) u v1 v2 v3 v4 v5 ((257 + v5) - 4) _ hk13 hR) ⟨rfl, rfl, rfl, rfl, rfl, rfl, trivial⟩ rfl rfl
      · replace hR := lf_f h2 hR
        refine ev_run (cs := []) (pc' := 50) (L' := [some (.ref 0), some (.int v1), some (.int v2), some (.int v3), some (.int v4), some (.int v5), none, none, none]) (st' := [.int (13 + v5)]) (w' := W_X5 u) [] 4 (by with_unfolding_all rfl) trivial ?_
        exact ev_to2 (t_X5_cut_b50 F (s_X5_cut_l13 F v1 v2 n) u v1 v2 v3 v4 v5 (13 + v5) _ hk13 hR) ⟨rfl, rfl, rfl, rfl, rfl, rfl, trivial⟩ rfl rfl

def s_X5_cut (F : Nat) (u : S_X5) (v1 : Int32) : Option (Int32 × S_X5) := (s_X5_findReached F u).bind fun y1 => (s_X5_cut_l13 F v1 y1.1 F y1.2 (-1) 0 0)
set_option maxHeartbeats 4000000 in
set_option maxRecDepth 20000 in
theorem t_X5_cut (F : Nat) (u : S_X5) (v1 : Int32) (x : (Int32 × S_X5)) (hR : s_X5_cut F u v1 = some x) : ev_A yX5_cut mm_X5_cut none [.ref 0, .int v1] (W_X5 u) (fun r w => r = some (.int x.1) ∧ w = W_X5 x.2) := by
  unfold s_X5_cut at hR
  refine ev_start ok_X5_cut (by decide +kernel) rfl rfl (Nat.le_of_ble_eq_true rfl) ?_
  refine ev_run (cs := []) (pc' := 1) (L' := [some (.ref 0), some (.int v1), none, none, none, none, none, none, none]) (st' := [.ref 0]) (w' := W_X5 u) [] 1 (by with_unfolding_all rfl) trivial ?_
  obtain ⟨y1, h1, hR⟩ := lf_b hR
  refine ev_callV1 0 (t_X5_findReached F u _ h1) cv_X5_findReached ml_X5_212 rfl rfl rfl (Nat.le_of_ble_eq_true rfl) (by with_unfolding_all rfl) (Nat.le_of_ble_eq_true rfl) ⟨Nat.le_of_ble_eq_true rfl, Nat.le_of_ble_eq_true rfl⟩ ⟨Nat.le_refl _, Nat.le_refl _⟩ ?_ ?_
  · rintro r w ⟨rfl, rfl⟩; rfl
  rintro r w ⟨rfl, rfl⟩
  refine ev_nx (pc' := 4) (st' := [.int y1.1]) (w' := W_X5 y1.2) rfl rfl (by with_unfolding_all rfl) rfl rfl ?_
  refine ev_run (cs := []) (pc' := 13) (L' := [some (.ref 0), some (.int v1), some (.int y1.1), some (.int (-1)), some (.int 0), some (.int 0), none, none, none]) (st' := []) (w' := W_X5 y1.2) [] 7 (by with_unfolding_all rfl) trivial ?_
  exact ev_to2 (t_X5_cut_l13 F v1 y1.1 _ F y1.2 (-1) 0 0 hR) ⟨rfl, rfl, rfl, rfl, rfl, rfl, trivial⟩ rfl rfl

def s_X5_bestCut_b15 (F : Nat) (u : S_X5) (v1 : Int32) (p1 : Int32) : Option (Int32 × S_X5) := if p1 ≤ 0 then ((s_X5_cut F (m_X5_thrown p1 u) v1).bind fun y1 => (some (y1.1, y1.2))) else (some (0, m_X5_thrown p1 u))
set_option maxHeartbeats 4000000 in
set_option maxRecDepth 20000 in
theorem t_X5_bestCut_b15 (F : Nat) (u : S_X5) (v1 : Int32) (p1 : Int32) (x : (Int32 × S_X5))  (hR : s_X5_bestCut_b15 F u v1 p1 = some x) : ev_V mm_X5_bestCut none (ev_XR mm_X5_bestCut (fun r w => r = some (.int x.1) ∧ w = W_X5 x.2)) 15 [some (.ref 0), some (.int v1)] [.int p1, .ref 0] (W_X5 u) 0 0 := by
  unfold s_X5_bestCut_b15 at hR
  refine ev_run (cs := []) (pc' := 22) (L' := [some (.ref 0), some (.int v1)]) (st' := [.int p1]) (w' := W_X5 (m_X5_thrown p1 u)) [] 3 (by with_unfolding_all rfl) trivial ?_
  refine ev_br rfl rfl (fun h1 => ?_) (fun h1 => ?_)
  · replace hR := lf_t h1 hR
    refine ev_run (cs := []) (pc' := 31) (L' := [some (.ref 0), some (.int v1)]) (st' := [.int v1, .ref 0]) (w' := W_X5 (m_X5_thrown p1 u)) [] 2 (by with_unfolding_all rfl) trivial ?_
    obtain ⟨y1, h2, hR⟩ := lf_b hR
    refine ev_callV1 0 (t_X5_cut F (m_X5_thrown p1 u) v1 _ h2) cv_X5_cut ml_X5_248 rfl rfl rfl (Nat.le_of_ble_eq_true rfl) (by with_unfolding_all rfl) (Nat.le_of_ble_eq_true rfl) ⟨Nat.le_of_ble_eq_true rfl, Nat.le_of_ble_eq_true rfl⟩ ⟨Nat.le_refl _, Nat.le_refl _⟩ ?_ ?_
    · rintro r w ⟨rfl, rfl⟩; rfl
    rintro r w ⟨rfl, rfl⟩
    refine ev_nx (pc' := 34) (st' := [.int y1.1]) (w' := W_X5 y1.2) rfl rfl (by with_unfolding_all rfl) rfl rfl ?_
    cases hR
    exact ev_exit ⟨_, _, rfl, ⟨rfl, Or.inl rfl⟩, ⟨rfl, rfl⟩, Nat.le_refl _, Nat.le_refl _⟩
  · replace hR := lf_f h1 hR
    refine ev_run (cs := []) (pc' := 34) (L' := [some (.ref 0), some (.int v1)]) (st' := [.int 0]) (w' := W_X5 (m_X5_thrown p1 u)) [] 2 (by with_unfolding_all rfl) trivial ?_
    cases hR
    exact ev_exit ⟨_, _, rfl, ⟨rfl, Or.inl rfl⟩, ⟨rfl, rfl⟩, Nat.le_refl _, Nat.le_refl _⟩

def s_X5_bestCut (F : Nat) (u : S_X5) (v1 : Int32) : Option (Int32 × S_X5) := (s_X5_within F v1 0 1).bind fun y1 => (if y1 then (s_X5_bestCut_b15 F u v1 0) else (s_X5_bestCut_b15 F u v1 1))
set_option maxHeartbeats 4000000 in
set_option maxRecDepth 20000 in
theorem t_X5_bestCut (F : Nat) (u : S_X5) (v1 : Int32) (x : (Int32 × S_X5)) (hR : s_X5_bestCut F u v1 = some x) : ev_A yX5_bestCut mm_X5_bestCut none [.ref 0, .int v1] (W_X5 u) (fun r w => r = some (.int x.1) ∧ w = W_X5 x.2) := by
  unfold s_X5_bestCut at hR
  refine ev_start ok_X5_bestCut (by decide +kernel) rfl rfl (Nat.le_of_ble_eq_true rfl) ?_
  refine ev_run (cs := []) (pc' := 4) (L' := [some (.ref 0), some (.int v1)]) (st' := [.int 1, .int 0, .int v1, .ref 0]) (w' := W_X5 u) [] 4 (by with_unfolding_all rfl) trivial ?_
  obtain ⟨y1, h1, hR⟩ := lf_b hR
  refine ev_callS1 0 (t_X5_within F v1 0 1 _ h1) cs_X5_within ml_X5_46 rfl rfl rfl (Nat.le_of_ble_eq_true rfl) (by with_unfolding_all rfl) (Nat.le_of_ble_eq_true rfl) ⟨Nat.le_of_ble_eq_true rfl, Nat.le_of_ble_eq_true rfl⟩ ⟨Nat.le_refl _, Nat.le_refl _⟩ ?_ ?_
  · rintro r w ⟨rfl, rfl⟩; rfl
  rintro r w ⟨rfl, rfl⟩
  refine ev_nx (pc' := 7) (st' := [.int (ev_b y1), .ref 0]) (w' := W_X5 u) rfl rfl (by with_unfolding_all rfl) rfl rfl ?_
  refine ev_br rfl rfl (fun h2 => ?_) (fun h2 => ?_)
  · replace hR := lf_z0 h2 hR
    refine ev_run (cs := []) (pc' := 15) (L' := [some (.ref 0), some (.int v1)]) (st' := [.int 1, .ref 0]) (w' := W_X5 u) [] 1 (by with_unfolding_all rfl) trivial ?_
    exact ev_to2 (t_X5_bestCut_b15 F u v1 1 _ hR) ⟨rfl, rfl, trivial⟩ rfl rfl
  · replace hR := lf_z1 h2 hR
    refine ev_run (cs := []) (pc' := 15) (L' := [some (.ref 0), some (.int v1)]) (st' := [.int 0, .ref 0]) (w' := W_X5 u) [] 2 (by with_unfolding_all rfl) trivial ?_
    exact ev_to2 (t_X5_bestCut_b15 F u v1 0 _ hR) ⟨rfl, rfl, trivial⟩ rfl rfl

def s_X5_wouldBear_b78 (F : Nat) (k17 : S_X5 → Int32 → Int32 → Option (Int32 × S_X5)) (u : S_X5) (v1 : Int32) (v3 : Int32) (p0 : Int32) : Option (Int32 × S_X5) := (s_X5_copy F 20377 20377 (a_X5_kept u) (a_X5_state u) 0 0).bind fun y1 => (k17 (m_X5_state y1 u) p0 (v3 + 1))
set_option maxHeartbeats 4000000 in
set_option maxRecDepth 20000 in
theorem t_X5_wouldBear_b78 (F : Nat) (k17 : S_X5 → Int32 → Int32 → Option (Int32 × S_X5)) (u : S_X5) (v1 : Int32) (v3 : Int32) (p0 : Int32) (x : (Int32 × S_X5)) (hk17 : ∀ (u : S_X5) (v2 : Int32) (v3 : Int32), k17 u v2 v3 = some x → ev_V mm_X5_wouldBear none (ev_XR mm_X5_wouldBear (fun r w => r = some (.int x.1) ∧ w = W_X5 x.2)) 17 [some (.ref 0), some (.int v1), some (.int v2), some (.int v3), none] [] (W_X5 u) 0 0) (hR : s_X5_wouldBear_b78 F k17 u v1 v3 p0 = some x) : ev_V mm_X5_wouldBear none (ev_XR mm_X5_wouldBear (fun r w => r = some (.int x.1) ∧ w = W_X5 x.2)) 78 [some (.ref 0), some (.int v1), none, some (.int v3), none] [.int p0] (W_X5 u) 0 0 := by
  unfold s_X5_wouldBear_b78 at hR
  refine ev_run (cs := []) (pc' := 89) (L' := [some (.ref 0), some (.int v1), some (.int p0), some (.int v3), none]) (st' := [.int 0, .ref 1, .int 0, .ref 2]) (w' := W_X5 u) [] 7 (by with_unfolding_all rfl) trivial ?_
  obtain ⟨y1, h1, hR⟩ := lf_b hR
  refine ev_callS2 1 2 1 (t_X5_copy F 20377 20377 (a_X5_kept u) (a_X5_state u) 0 0 _ h1) cs_X5_copy ml_X5_42 rfl rfl rfl rfl (Nat.le_of_ble_eq_true rfl) (Nat.le_of_ble_eq_true rfl) (by decide) (by with_unfolding_all rfl) (Nat.le_of_ble_eq_true rfl) ⟨Nat.le_of_ble_eq_true rfl, Nat.le_of_ble_eq_true rfl⟩ ⟨Nat.le_refl _, Nat.le_refl _⟩ ?_ ?_
  · rintro r w ⟨rfl, rfl⟩; rfl
  rintro r w ⟨rfl, rfl⟩
  refine ev_nx (pc' := 92) (st' := []) (w' := W_X5 (m_X5_state y1 u)) rfl rfl (by with_unfolding_all rfl) rfl rfl ?_
  refine ev_run (cs := []) (pc' := 17) (L' := [some (.ref 0), some (.int v1), some (.int p0), some (.int (v3 + 1)), none]) (st' := []) (w' := W_X5 (m_X5_state y1 u)) [] 2 (by with_unfolding_all rfl) trivial ?_
  exact ev_to2 (hk17 _ _ _ hR) ⟨rfl, rfl, rfl, rfl, trivial⟩ rfl rfl

def s_X5_wouldBear_b58 (F : Nat) (k17 : S_X5 → Int32 → Int32 → Option (Int32 × S_X5)) (u : S_X5) (v1 : Int32) (v3 : Int32) : Option (Int32 × S_X5) := (s_X5_passed F u 30).bind fun y1 => ((s_X5_lives F y1.2 v1).bind fun y2 => (if y2 then (s_X5_wouldBear_b78 F k17 y1.2 v1 v3 (-1)) else (s_X5_wouldBear_b78 F k17 y1.2 v1 v3 v3)))
set_option maxHeartbeats 4000000 in
set_option maxRecDepth 20000 in
theorem t_X5_wouldBear_b58 (F : Nat) (k17 : S_X5 → Int32 → Int32 → Option (Int32 × S_X5)) (u : S_X5) (v1 : Int32) (v3 : Int32) (x : (Int32 × S_X5)) (hk17 : ∀ (u : S_X5) (v2 : Int32) (v3 : Int32), k17 u v2 v3 = some x → ev_V mm_X5_wouldBear none (ev_XR mm_X5_wouldBear (fun r w => r = some (.int x.1) ∧ w = W_X5 x.2)) 17 [some (.ref 0), some (.int v1), some (.int v2), some (.int v3), none] [] (W_X5 u) 0 0) (hR : s_X5_wouldBear_b58 F k17 u v1 v3 = some x) : ev_V mm_X5_wouldBear none (ev_XR mm_X5_wouldBear (fun r w => r = some (.int x.1) ∧ w = W_X5 x.2)) 58 [some (.ref 0), some (.int v1), none, some (.int v3), none] [] (W_X5 u) 0 0 := by
  unfold s_X5_wouldBear_b58 at hR
  refine ev_run (cs := []) (pc' := 61) (L' := [some (.ref 0), some (.int v1), none, some (.int v3), none]) (st' := [.int 30, .ref 0]) (w' := W_X5 u) [] 2 (by with_unfolding_all rfl) trivial ?_
  obtain ⟨y1, h1, hR⟩ := lf_b hR
  refine ev_callV1 0 (t_X5_passed F u 30 _ h1) cv_X5_passed ml_X5_168 rfl rfl rfl (Nat.le_of_ble_eq_true rfl) (by with_unfolding_all rfl) (Nat.le_of_ble_eq_true rfl) ⟨Nat.le_of_ble_eq_true rfl, Nat.le_of_ble_eq_true rfl⟩ ⟨Nat.le_refl _, Nat.le_refl _⟩ ?_ ?_
  · rintro r w ⟨rfl, rfl⟩; rfl
  rintro r w ⟨rfl, rfl⟩
  refine ev_nx (pc' := 64) (st' := [.int y1.1]) (w' := W_X5 y1.2) rfl rfl (by with_unfolding_all rfl) rfl rfl ?_
  refine ev_run (cs := []) (pc' := 67) (L' := [some (.ref 0), some (.int v1), none, some (.int v3), none]) (st' := [.int v1, .ref 0]) (w' := W_X5 y1.2) [] 3 (by with_unfolding_all rfl) trivial ?_
  obtain ⟨y2, h2, hR⟩ := lf_b hR
  refine ev_callV1 0 (t_X5_lives F y1.2 v1 _ h2) cv_X5_lives ml_X5_54 rfl rfl rfl (Nat.le_of_ble_eq_true rfl) (by with_unfolding_all rfl) (Nat.le_of_ble_eq_true rfl) ⟨Nat.le_of_ble_eq_true rfl, Nat.le_of_ble_eq_true rfl⟩ ⟨Nat.le_refl _, Nat.le_refl _⟩ ?_ ?_
  · rintro r w ⟨rfl, rfl⟩; rfl
  rintro r w ⟨rfl, rfl⟩
  refine ev_nx (pc' := 70) (st' := [.int (ev_b y2)]) (w' := W_X5 y1.2) rfl rfl (by with_unfolding_all rfl) rfl rfl ?_
  refine ev_br rfl rfl (fun h3 => ?_) (fun h3 => ?_)
  · replace hR := lf_z0 h3 hR
    refine ev_run (cs := []) (pc' := 78) (L' := [some (.ref 0), some (.int v1), none, some (.int v3), none]) (st' := [.int v3]) (w' := W_X5 y1.2) [] 1 (by with_unfolding_all rfl) trivial ?_
    exact ev_to2 (t_X5_wouldBear_b78 F k17 y1.2 v1 v3 v3 _ hk17 hR) ⟨rfl, rfl, rfl, trivial⟩ rfl rfl
  · replace hR := lf_z1 h3 hR
    refine ev_run (cs := []) (pc' := 78) (L' := [some (.ref 0), some (.int v1), none, some (.int v3), none]) (st' := [.int (-1)]) (w' := W_X5 y1.2) [] 2 (by with_unfolding_all rfl) trivial ?_
    exact ev_to2 (t_X5_wouldBear_b78 F k17 y1.2 v1 v3 (-1) _ hk17 hR) ⟨rfl, rfl, rfl, trivial⟩ rfl rfl

def s_X5_wouldBear_l31 (F : Nat) (v1 : Int32) (v3 : Int32) (k17 : S_X5 → Int32 → Int32 → Option (Int32 × S_X5)) : Nat → S_X5 → Int32 → Option (Int32 × S_X5)
  | 0 => fun _ _ => none
  | n + 1 => fun u v4 => if v3 ≤ v4 then (s_X5_wouldBear_b58 F k17 u v1 v3) else ((s_X5_lives F u v1).bind fun y1 => (if y1 then ((s_X5_slandered F u v1 (-1)).bind fun y2 => (s_X5_wouldBear_l31 F v1 v3 k17 n y2.2 (v4 + 1))) else (s_X5_wouldBear_b58 F k17 u v1 v3)))
theorem e_X5_wouldBear_l31 (F : Nat) (v1 : Int32) (v3 : Int32) (k17 : S_X5 → Int32 → Int32 → Option (Int32 × S_X5)) (n : Nat) (u : S_X5) (v4 : Int32) : s_X5_wouldBear_l31 F v1 v3 k17 (n + 1) u v4 = if v3 ≤ v4 then (s_X5_wouldBear_b58 F k17 u v1 v3) else ((s_X5_lives F u v1).bind fun y1 => (if y1 then ((s_X5_slandered F u v1 (-1)).bind fun y2 => (s_X5_wouldBear_l31 F v1 v3 k17 n y2.2 (v4 + 1))) else (s_X5_wouldBear_b58 F k17 u v1 v3))) := rfl
set_option maxHeartbeats 4000000 in
set_option maxRecDepth 20000 in
theorem t_X5_wouldBear_l31 (F : Nat) (v1 : Int32) (v3 : Int32) (k17 : S_X5 → Int32 → Int32 → Option (Int32 × S_X5)) (x : (Int32 × S_X5)) (hk17 : ∀ (u : S_X5) (v2 : Int32) (v3 : Int32), k17 u v2 v3 = some x → ev_V mm_X5_wouldBear none (ev_XR mm_X5_wouldBear (fun r w => r = some (.int x.1) ∧ w = W_X5 x.2)) 17 [some (.ref 0), some (.int v1), some (.int v2), some (.int v3), none] [] (W_X5 u) 0 0) : ∀ (n : Nat) (u : S_X5) (v4 : Int32), s_X5_wouldBear_l31 F v1 v3 k17 n u v4 = some x → ev_V mm_X5_wouldBear none (ev_XR mm_X5_wouldBear (fun r w => r = some (.int x.1) ∧ w = W_X5 x.2)) 31 [some (.ref 0), some (.int v1), none, some (.int v3), some (.int v4)] [] (W_X5 u) 0 0 := by
  intro n
  induction n with
  | zero => intro u v4 hR; cases hR
  | succ n hk31 =>
    intro u v4 hR
    unfold s_X5_wouldBear_l31 at hR
    refine ev_run (cs := []) (pc' := 34) (L' := [some (.ref 0), some (.int v1), none, some (.int v3), some (.int v4)]) (st' := [.int v3, .int v4]) (w' := W_X5 u) [] 2 (by with_unfolding_all rfl) trivial ?_
    refine ev_br rfl rfl (fun h1 => ?_) (fun h1 => ?_)
    · replace hR := lf_t h1 hR
      exact ev_to2 (t_X5_wouldBear_b58 F k17 u v1 v3 _ hk17 hR) ⟨rfl, rfl, rfl, trivial⟩ rfl rfl
    · replace hR := lf_f h1 hR
      refine ev_run (cs := []) (pc' := 39) (L' := [some (.ref 0), some (.int v1), none, some (.int v3), some (.int v4)]) (st' := [.int v1, .ref 0]) (w' := W_X5 u) [] 2 (by with_unfolding_all rfl) trivial ?_
      obtain ⟨y1, h2, hR⟩ := lf_b hR
      refine ev_callV1 0 (t_X5_lives F u v1 _ h2) cv_X5_lives ml_X5_54 rfl rfl rfl (Nat.le_of_ble_eq_true rfl) (by with_unfolding_all rfl) (Nat.le_of_ble_eq_true rfl) ⟨Nat.le_of_ble_eq_true rfl, Nat.le_of_ble_eq_true rfl⟩ ⟨Nat.le_refl _, Nat.le_refl _⟩ ?_ ?_
      · rintro r w ⟨rfl, rfl⟩; rfl
      rintro r w ⟨rfl, rfl⟩
      refine ev_nx (pc' := 42) (st' := [.int (ev_b y1)]) (w' := W_X5 u) rfl rfl (by with_unfolding_all rfl) rfl rfl ?_
      refine ev_br rfl rfl (fun h3 => ?_) (fun h3 => ?_)
      · replace hR := lf_z0 h3 hR
        exact ev_to2 (t_X5_wouldBear_b58 F k17 u v1 v3 _ hk17 hR) ⟨rfl, rfl, rfl, trivial⟩ rfl rfl
      · replace hR := lf_z1 h3 hR
        refine ev_run (cs := []) (pc' := 48) (L' := [some (.ref 0), some (.int v1), none, some (.int v3), some (.int v4)]) (st' := [.int (-1), .int v1, .ref 0]) (w' := W_X5 u) [] 3 (by with_unfolding_all rfl) trivial ?_
        obtain ⟨y2, h4, hR⟩ := lf_b hR
        refine ev_callV1 0 (t_X5_slandered F u v1 (-1) _ h4) cv_X5_slandered ml_X5_135 rfl rfl rfl (Nat.le_of_ble_eq_true rfl) (by with_unfolding_all rfl) (Nat.le_of_ble_eq_true rfl) ⟨Nat.le_of_ble_eq_true rfl, Nat.le_of_ble_eq_true rfl⟩ ⟨Nat.le_refl _, Nat.le_refl _⟩ ?_ ?_
        · rintro r w ⟨rfl, rfl⟩; rfl
        rintro r w ⟨rfl, rfl⟩
        refine ev_nx (pc' := 51) (st' := [.int y2.1]) (w' := W_X5 y2.2) rfl rfl (by with_unfolding_all rfl) rfl rfl ?_
        refine ev_run (cs := []) (pc' := 31) (L' := [some (.ref 0), some (.int v1), none, some (.int v3), some (.int (v4 + 1))]) (st' := []) (w' := W_X5 y2.2) [] 3 (by with_unfolding_all rfl) trivial ?_
        exact ev_to2 (hk31 _ _ hR) ⟨rfl, rfl, rfl, rfl, trivial⟩ rfl rfl

def s_X5_wouldBear_l17 (F : Nat) (v1 : Int32) : Nat → S_X5 → Int32 → Int32 → Option (Int32 × S_X5)
  | 0 => fun _ _ _ => none
  | n + 1 => fun u v2 v3 => if 12 < v3 then (some (v2, u)) else (if v2 = (-1) then (s_X5_wouldBear_l31 F v1 v3 (s_X5_wouldBear_l17 F v1 n) F u 0) else (some (v2, u)))
theorem e_X5_wouldBear_l17 (F : Nat) (v1 : Int32) (n : Nat) (u : S_X5) (v2 : Int32) (v3 : Int32) : s_X5_wouldBear_l17 F v1 (n + 1) u v2 v3 = if 12 < v3 then (some (v2, u)) else (if v2 = (-1) then (s_X5_wouldBear_l31 F v1 v3 (s_X5_wouldBear_l17 F v1 n) F u 0) else (some (v2, u))) := rfl
set_option maxHeartbeats 4000000 in
set_option maxRecDepth 20000 in
theorem t_X5_wouldBear_l17 (F : Nat) (v1 : Int32) (x : (Int32 × S_X5))  : ∀ (n : Nat) (u : S_X5) (v2 : Int32) (v3 : Int32), s_X5_wouldBear_l17 F v1 n u v2 v3 = some x → ev_V mm_X5_wouldBear none (ev_XR mm_X5_wouldBear (fun r w => r = some (.int x.1) ∧ w = W_X5 x.2)) 17 [some (.ref 0), some (.int v1), some (.int v2), some (.int v3), none] [] (W_X5 u) 0 0 := by
  intro n
  induction n with
  | zero => intro u v2 v3 hR; cases hR
  | succ n hk17 =>
    intro u v2 v3 hR
    unfold s_X5_wouldBear_l17 at hR
    refine ev_run (cs := []) (pc' := 20) (L' := [some (.ref 0), some (.int v1), some (.int v2), some (.int v3), none]) (st' := [.int 12, .int v3]) (w' := W_X5 u) [] 2 (by with_unfolding_all rfl) trivial ?_
    refine ev_br rfl rfl (fun h1 => ?_) (fun h1 => ?_)
    · replace hR := lf_t h1 hR
      refine ev_run (cs := []) (pc' := 99) (L' := [some (.ref 0), some (.int v1), some (.int v2), some (.int v3), none]) (st' := [.int v2]) (w' := W_X5 u) [] 1 (by with_unfolding_all rfl) trivial ?_
      cases hR
      exact ev_exit ⟨_, _, rfl, ⟨rfl, Or.inl rfl⟩, ⟨rfl, rfl⟩, Nat.le_refl _, Nat.le_refl _⟩
    · replace hR := lf_f h1 hR
      refine ev_run (cs := []) (pc' := 25) (L' := [some (.ref 0), some (.int v1), some (.int v2), some (.int v3), none]) (st' := [.int (-1), .int v2]) (w' := W_X5 u) [] 2 (by with_unfolding_all rfl) trivial ?_
      refine ev_br rfl rfl (fun h2 => ?_) (fun h2 => ?_)
      · replace hR := lf_f h2 hR
        refine ev_run (cs := []) (pc' := 99) (L' := [some (.ref 0), some (.int v1), some (.int v2), some (.int v3), none]) (st' := [.int v2]) (w' := W_X5 u) [] 1 (by with_unfolding_all rfl) trivial ?_
        cases hR
        exact ev_exit ⟨_, _, rfl, ⟨rfl, Or.inl rfl⟩, ⟨rfl, rfl⟩, Nat.le_refl _, Nat.le_refl _⟩
      · replace hR := lf_t h2 hR
        refine ev_run (cs := []) (pc' := 31) (L' := [some (.ref 0), some (.int v1), some (.int v2), some (.int v3), some (.int 0)]) (st' := []) (w' := W_X5 u) [] 2 (by with_unfolding_all rfl) trivial ?_
        exact ev_to2 (t_X5_wouldBear_l31 F v1 v3 (s_X5_wouldBear_l17 F v1 n) _ hk17 F u 0 hR) ⟨rfl, rfl, rfl, rfl, trivial⟩ rfl rfl

def s_X5_wouldBear (F : Nat) (u : S_X5) (v1 : Int32) : Option (Int32 × S_X5) := (s_X5_copy F 20377 20377 (a_X5_state u) (a_X5_kept u) 0 0).bind fun y1 => (s_X5_wouldBear_l17 F v1 F (m_X5_kept y1 u) (-1) 0)
set_option maxHeartbeats 4000000 in
set_option maxRecDepth 20000 in
theorem t_X5_wouldBear (F : Nat) (u : S_X5) (v1 : Int32) (x : (Int32 × S_X5)) (hR : s_X5_wouldBear F u v1 = some x) : ev_A yX5_wouldBear mm_X5_wouldBear none [.ref 0, .int v1] (W_X5 u) (fun r w => r = some (.int x.1) ∧ w = W_X5 x.2) := by
  unfold s_X5_wouldBear at hR
  refine ev_start ok_X5_wouldBear (by decide +kernel) rfl rfl (Nat.le_of_ble_eq_true rfl) ?_
  refine ev_run (cs := []) (pc' := 12) (L' := [some (.ref 0), some (.int v1), some (.int (-1)), none, none]) (st' := [.int 0, .ref 2, .int 0, .ref 1]) (w' := W_X5 u) [] 8 (by with_unfolding_all rfl) trivial ?_
  obtain ⟨y1, h1, hR⟩ := lf_b hR
  refine ev_callS2 1 1 2 (t_X5_copy F 20377 20377 (a_X5_state u) (a_X5_kept u) 0 0 _ h1) cs_X5_copy ml_X5_42 rfl rfl rfl rfl (Nat.le_of_ble_eq_true rfl) (Nat.le_of_ble_eq_true rfl) (by decide) (by with_unfolding_all rfl) (Nat.le_of_ble_eq_true rfl) ⟨Nat.le_of_ble_eq_true rfl, Nat.le_of_ble_eq_true rfl⟩ ⟨Nat.le_refl _, Nat.le_refl _⟩ ?_ ?_
  · rintro r w ⟨rfl, rfl⟩; rfl
  rintro r w ⟨rfl, rfl⟩
  refine ev_nx (pc' := 15) (st' := []) (w' := W_X5 (m_X5_kept y1 u)) rfl rfl (by with_unfolding_all rfl) rfl rfl ?_
  refine ev_run (cs := []) (pc' := 17) (L' := [some (.ref 0), some (.int v1), some (.int (-1)), some (.int 0), none]) (st' := []) (w' := W_X5 (m_X5_kept y1 u)) [] 2 (by with_unfolding_all rfl) trivial ?_
  exact ev_to2 (t_X5_wouldBear_l17 F v1 _ F (m_X5_kept y1 u) (-1) 0 hR) ⟨rfl, rfl, rfl, rfl, trivial⟩ rfl rfl

def s_X5_bears_b14 (F : Nat) (u : S_X5) (v1 : Int32) (p1 : Int32) : Option (Int32 × S_X5) := if p1 ≤ 0 then ((s_X5_wouldBear F (m_X5_thrown p1 u) v1).bind fun y1 => (some (y1.1, y1.2))) else (some (0, m_X5_thrown p1 u))
set_option maxHeartbeats 4000000 in
set_option maxRecDepth 20000 in
theorem t_X5_bears_b14 (F : Nat) (u : S_X5) (v1 : Int32) (p1 : Int32) (x : (Int32 × S_X5))  (hR : s_X5_bears_b14 F u v1 p1 = some x) : ev_V mm_X5_bears none (ev_XR mm_X5_bears (fun r w => r = some (.int x.1) ∧ w = W_X5 x.2)) 14 [some (.ref 0), some (.int v1)] [.int p1, .ref 0] (W_X5 u) 0 0 := by
  unfold s_X5_bears_b14 at hR
  refine ev_run (cs := []) (pc' := 21) (L' := [some (.ref 0), some (.int v1)]) (st' := [.int p1]) (w' := W_X5 (m_X5_thrown p1 u)) [] 3 (by with_unfolding_all rfl) trivial ?_
  refine ev_br rfl rfl (fun h1 => ?_) (fun h1 => ?_)
  · replace hR := lf_t h1 hR
    refine ev_run (cs := []) (pc' := 30) (L' := [some (.ref 0), some (.int v1)]) (st' := [.int v1, .ref 0]) (w' := W_X5 (m_X5_thrown p1 u)) [] 2 (by with_unfolding_all rfl) trivial ?_
    obtain ⟨y1, h2, hR⟩ := lf_b hR
    refine ev_callV1 0 (t_X5_wouldBear F (m_X5_thrown p1 u) v1 _ h2) cv_X5_wouldBear ml_X5_251 rfl rfl rfl (Nat.le_of_ble_eq_true rfl) (by with_unfolding_all rfl) (Nat.le_of_ble_eq_true rfl) ⟨Nat.le_of_ble_eq_true rfl, Nat.le_of_ble_eq_true rfl⟩ ⟨Nat.le_refl _, Nat.le_refl _⟩ ?_ ?_
    · rintro r w ⟨rfl, rfl⟩; rfl
    rintro r w ⟨rfl, rfl⟩
    refine ev_nx (pc' := 33) (st' := [.int y1.1]) (w' := W_X5 y1.2) rfl rfl (by with_unfolding_all rfl) rfl rfl ?_
    cases hR
    exact ev_exit ⟨_, _, rfl, ⟨rfl, Or.inl rfl⟩, ⟨rfl, rfl⟩, Nat.le_refl _, Nat.le_refl _⟩
  · replace hR := lf_f h1 hR
    refine ev_run (cs := []) (pc' := 33) (L' := [some (.ref 0), some (.int v1)]) (st' := [.int 0]) (w' := W_X5 (m_X5_thrown p1 u)) [] 2 (by with_unfolding_all rfl) trivial ?_
    cases hR
    exact ev_exit ⟨_, _, rfl, ⟨rfl, Or.inl rfl⟩, ⟨rfl, rfl⟩, Nat.le_refl _, Nat.le_refl _⟩

def s_X5_bears (F : Nat) (u : S_X5) (v1 : Int32) : Option (Int32 × S_X5) := (s_X5_isThing F u v1).bind fun y1 => (if y1 then (s_X5_bears_b14 F u v1 0) else (s_X5_bears_b14 F u v1 1))
set_option maxHeartbeats 4000000 in
set_option maxRecDepth 20000 in
theorem t_X5_bears (F : Nat) (u : S_X5) (v1 : Int32) (x : (Int32 × S_X5)) (hR : s_X5_bears F u v1 = some x) : ev_A yX5_bears mm_X5_bears none [.ref 0, .int v1] (W_X5 u) (fun r w => r = some (.int x.1) ∧ w = W_X5 x.2) := by
  unfold s_X5_bears at hR
  refine ev_start ok_X5_bears (by decide +kernel) rfl rfl (Nat.le_of_ble_eq_true rfl) ?_
  refine ev_run (cs := []) (pc' := 3) (L' := [some (.ref 0), some (.int v1)]) (st' := [.int v1, .ref 0, .ref 0]) (w' := W_X5 u) [] 3 (by with_unfolding_all rfl) trivial ?_
  obtain ⟨y1, h1, hR⟩ := lf_b hR
  refine ev_callV1 0 (t_X5_isThing F u v1 _ h1) cv_X5_isThing ml_X5_114 rfl rfl rfl (Nat.le_of_ble_eq_true rfl) (by with_unfolding_all rfl) (Nat.le_of_ble_eq_true rfl) ⟨Nat.le_of_ble_eq_true rfl, Nat.le_of_ble_eq_true rfl⟩ ⟨Nat.le_refl _, Nat.le_refl _⟩ ?_ ?_
  · rintro r w ⟨rfl, rfl⟩; rfl
  rintro r w ⟨rfl, rfl⟩
  refine ev_nx (pc' := 6) (st' := [.int (ev_b y1), .ref 0]) (w' := W_X5 u) rfl rfl (by with_unfolding_all rfl) rfl rfl ?_
  refine ev_br rfl rfl (fun h2 => ?_) (fun h2 => ?_)
  · replace hR := lf_z0 h2 hR
    refine ev_run (cs := []) (pc' := 14) (L' := [some (.ref 0), some (.int v1)]) (st' := [.int 1, .ref 0]) (w' := W_X5 u) [] 1 (by with_unfolding_all rfl) trivial ?_
    exact ev_to2 (t_X5_bears_b14 F u v1 1 _ hR) ⟨rfl, rfl, trivial⟩ rfl rfl
  · replace hR := lf_z1 h2 hR
    refine ev_run (cs := []) (pc' := 14) (L' := [some (.ref 0), some (.int v1)]) (st' := [.int 0, .ref 0]) (w' := W_X5 u) [] 2 (by with_unfolding_all rfl) trivial ?_
    exact ev_to2 (t_X5_bears_b14 F u v1 0 _ hR) ⟨rfl, rfl, trivial⟩ rfl rfl

def s_X5_doubleBits_b84 (F : Nat) (v4 : Int32) (p0 : Int64) (p1 : Int64) : Option Int64 := some ((((1075 - v4 : Int32).toInt64) <<< ((52 : Int32).toInt64 &&& 63)) + ((p0 + p1) - 4503599627370496))
set_option maxHeartbeats 4000000 in
set_option maxRecDepth 20000 in
theorem t_X5_doubleBits_b84 (F : Nat) (v4 : Int32) (p0 : Int64) (p1 : Int64) (x : Int64)  (hR : s_X5_doubleBits_b84 F v4 p0 p1 = some x) : ev_V mm_X5_doubleBits none (ev_XR mm_X5_doubleBits (fun r w => r = some (.long x) ∧ w = ([] : List ev_E))) 84 [none, none, none, none, some (.int v4), none, none, none, none] [.long p1, .long p0] (([] : List ev_E)) 0 0 := by
  unfold s_X5_doubleBits_b84 at hR
  refine ev_run (cs := []) (pc' := 104) (L' := [none, none, none, none, some (.int v4), some (.long (p0 + p1)), none, none, none]) (st' := [.long ((((1075 - v4 : Int32).toInt64) <<< ((52 : Int32).toInt64 &&& 63)) + ((p0 + p1) - 4503599627370496))]) (w' := ([] : List ev_E)) [] 12 (by with_unfolding_all rfl) trivial ?_
  cases hR
  exact ev_exit ⟨_, _, rfl, ⟨rfl, rfl⟩, ⟨rfl, rfl⟩, Nat.le_refl _, Nat.le_refl _⟩

def s_X5_doubleBits_b34 (F : Nat) (v1 : Int32) (v2 : Int64) (v4 : Int32) : Option Int64 := if ¬ ((v1 : Int32).toInt64 : Int64) = 0 then (if ¬ ((v1 : Int32).toInt64 : Int64) = 0 then (if 0 < (lg_cmp (2 * (v2 - v2 / ((v1 : Int32).toInt64) * ((v1 : Int32).toInt64))) ((v1 : Int32).toInt64)) then (s_X5_doubleBits_b84 F v4 (v2 / ((v1 : Int32).toInt64)) 1) else (if (lg_cmp (2 * (v2 - v2 / ((v1 : Int32).toInt64) * ((v1 : Int32).toInt64))) ((v1 : Int32).toInt64)) = 0 then (if (lg_cmp ((v2 / ((v1 : Int32).toInt64)) - (v2 / ((v1 : Int32).toInt64)) / 2 * 2) 1) = 0 then (s_X5_doubleBits_b84 F v4 (v2 / ((v1 : Int32).toInt64)) 1) else (s_X5_doubleBits_b84 F v4 (v2 / ((v1 : Int32).toInt64)) 0)) else (s_X5_doubleBits_b84 F v4 (v2 / ((v1 : Int32).toInt64)) 0))) else none) else none
set_option maxHeartbeats 4000000 in
set_option maxRecDepth 20000 in
theorem t_X5_doubleBits_b34 (F : Nat) (v1 : Int32) (v2 : Int64) (v4 : Int32) (x : Int64)  (hR : s_X5_doubleBits_b34 F v1 v2 v4 = some x) : ev_V mm_X5_doubleBits none (ev_XR mm_X5_doubleBits (fun r w => r = some (.long x) ∧ w = ([] : List ev_E))) 34 [none, some (.int v1), some (.long v2), none, some (.int v4), none, none, none, none] [] (([] : List ev_E)) 0 0 := by
  unfold s_X5_doubleBits_b34 at hR
  obtain ⟨h1, hR⟩ := lf_g hR
  obtain ⟨h2, hR⟩ := lf_g hR
  refine ev_run (cs := [¬ ((v1 : Int32).toInt64 : Int64) = 0, ¬ ((v1 : Int32).toInt64 : Int64) = 0]) (pc' := 50) (L' := [none, some (.int v1), some (.long v2), none, some (.int v4), some (.long (v2 / ((v1 : Int32).toInt64))), none, some (.long (2 * (v2 - v2 / ((v1 : Int32).toInt64) * ((v1 : Int32).toInt64)))), none]) (st' := []) (w' := ([] : List ev_E)) [] 12 (by with_unfolding_all rfl) ⟨h1, h2⟩ ?_
  refine ev_run (cs := []) (pc' := 57) (L' := [none, some (.int v1), some (.long v2), none, some (.int v4), some (.long (v2 / ((v1 : Int32).toInt64))), none, some (.long (2 * (v2 - v2 / ((v1 : Int32).toInt64) * ((v1 : Int32).toInt64)))), none]) (st' := [.int (lg_cmp (2 * (v2 - v2 / ((v1 : Int32).toInt64) * ((v1 : Int32).toInt64))) ((v1 : Int32).toInt64)), .long (v2 / ((v1 : Int32).toInt64))]) (w' := ([] : List ev_E)) [] 5 (by with_unfolding_all rfl) trivial ?_
  refine ev_br rfl rfl (fun h3 => ?_) (fun h3 => ?_)
  · replace hR := lf_t h3 hR
    refine ev_run (cs := []) (pc' := 84) (L' := [none, some (.int v1), some (.long v2), none, some (.int v4), some (.long (v2 / ((v1 : Int32).toInt64))), none, some (.long (2 * (v2 - v2 / ((v1 : Int32).toInt64) * ((v1 : Int32).toInt64)))), none]) (st' := [.long 1, .long (v2 / ((v1 : Int32).toInt64))]) (w' := ([] : List ev_E)) [] 2 (by with_unfolding_all rfl) trivial ?_
    exact ev_to2 (t_X5_doubleBits_b84 F v4 (v2 / ((v1 : Int32).toInt64)) 1 _ hR) ⟨rfl, trivial⟩ rfl rfl
  · replace hR := lf_f h3 hR
    refine ev_run (cs := []) (pc' := 65) (L' := [none, some (.int v1), some (.long v2), none, some (.int v4), some (.long (v2 / ((v1 : Int32).toInt64))), none, some (.long (2 * (v2 - v2 / ((v1 : Int32).toInt64) * ((v1 : Int32).toInt64)))), none]) (st' := [.int (lg_cmp (2 * (v2 - v2 / ((v1 : Int32).toInt64) * ((v1 : Int32).toInt64))) ((v1 : Int32).toInt64)), .long (v2 / ((v1 : Int32).toInt64))]) (w' := ([] : List ev_E)) [] 4 (by with_unfolding_all rfl) trivial ?_
    refine ev_br rfl rfl (fun h4 => ?_) (fun h4 => ?_)
    · replace hR := lf_f h4 hR
      refine ev_run (cs := []) (pc' := 84) (L' := [none, some (.int v1), some (.long v2), none, some (.int v4), some (.long (v2 / ((v1 : Int32).toInt64))), none, some (.long (2 * (v2 - v2 / ((v1 : Int32).toInt64) * ((v1 : Int32).toInt64)))), none]) (st' := [.long 0, .long (v2 / ((v1 : Int32).toInt64))]) (w' := ([] : List ev_E)) [] 1 (by with_unfolding_all rfl) trivial ?_
      exact ev_to2 (t_X5_doubleBits_b84 F v4 (v2 / ((v1 : Int32).toInt64)) 0 _ hR) ⟨rfl, trivial⟩ rfl rfl
    · replace hR := lf_t h4 hR
      refine ev_run (cs := [¬ (2 : Int64) = 0]) (pc' := 76) (L' := [none, some (.int v1), some (.long v2), none, some (.int v4), some (.long (v2 / ((v1 : Int32).toInt64))), none, some (.long (2 * (v2 - v2 / ((v1 : Int32).toInt64) * ((v1 : Int32).toInt64)))), none]) (st' := [.int (lg_cmp ((v2 / ((v1 : Int32).toInt64)) - (v2 / ((v1 : Int32).toInt64)) / 2 * 2) 1), .long (v2 / ((v1 : Int32).toInt64))]) (w' := ([] : List ev_E)) [] 5 (by with_unfolding_all rfl) (by show ¬ _; decide) ?_
      refine ev_br rfl rfl (fun h5 => ?_) (fun h5 => ?_)
      · replace hR := lf_f h5 hR
        refine ev_run (cs := []) (pc' := 84) (L' := [none, some (.int v1), some (.long v2), none, some (.int v4), some (.long (v2 / ((v1 : Int32).toInt64))), none, some (.long (2 * (v2 - v2 / ((v1 : Int32).toInt64) * ((v1 : Int32).toInt64)))), none]) (st' := [.long 0, .long (v2 / ((v1 : Int32).toInt64))]) (w' := ([] : List ev_E)) [] 1 (by with_unfolding_all rfl) trivial ?_
        exact ev_to2 (t_X5_doubleBits_b84 F v4 (v2 / ((v1 : Int32).toInt64)) 0 _ hR) ⟨rfl, trivial⟩ rfl rfl
      · replace hR := lf_t h5 hR
        refine ev_run (cs := []) (pc' := 84) (L' := [none, some (.int v1), some (.long v2), none, some (.int v4), some (.long (v2 / ((v1 : Int32).toInt64))), none, some (.long (2 * (v2 - v2 / ((v1 : Int32).toInt64) * ((v1 : Int32).toInt64)))), none]) (st' := [.long 1, .long (v2 / ((v1 : Int32).toInt64))]) (w' := ([] : List ev_E)) [] 2 (by with_unfolding_all rfl) trivial ?_
        exact ev_to2 (t_X5_doubleBits_b84 F v4 (v2 / ((v1 : Int32).toInt64)) 1 _ hR) ⟨rfl, trivial⟩ rfl rfl

def s_X5_doubleBits_l12 (F : Nat) (v1 : Int32) : Nat → Int64 → Int32 → Option Int64
  | 0 => fun _ _ => none
  | n + 1 => fun v2 v4 => if 0 ≤ (lg_cmp v2 (((v1 : Int32).toInt64) <<< ((52 : Int32).toInt64 &&& 63))) then (s_X5_doubleBits_b34 F v1 v2 v4) else (s_X5_doubleBits_l12 F v1 n (2 * v2) (v4 + 1))
theorem e_X5_doubleBits_l12 (F : Nat) (v1 : Int32) (n : Nat) (v2 : Int64) (v4 : Int32) : s_X5_doubleBits_l12 F v1 (n + 1) v2 v4 = if 0 ≤ (lg_cmp v2 (((v1 : Int32).toInt64) <<< ((52 : Int32).toInt64 &&& 63))) then (s_X5_doubleBits_b34 F v1 v2 v4) else (s_X5_doubleBits_l12 F v1 n (2 * v2) (v4 + 1)) := rfl
set_option maxHeartbeats 4000000 in
set_option maxRecDepth 20000 in
theorem t_X5_doubleBits_l12 (F : Nat) (v1 : Int32) (x : Int64)  : ∀ (n : Nat) (v2 : Int64) (v4 : Int32), s_X5_doubleBits_l12 F v1 n v2 v4 = some x → ev_V mm_X5_doubleBits none (ev_XR mm_X5_doubleBits (fun r w => r = some (.long x) ∧ w = ([] : List ev_E))) 12 [none, some (.int v1), some (.long v2), none, some (.int v4), none, none, none, none] [] (([] : List ev_E)) 0 0 := by
  intro n
  induction n with
  | zero => intro v2 v4 hR; cases hR
  | succ n hk12 =>
    intro v2 v4 hR
    unfold s_X5_doubleBits_l12 at hR
    refine ev_run (cs := []) (pc' := 19) (L' := [none, some (.int v1), some (.long v2), none, some (.int v4), none, none, none, none]) (st' := [.int (lg_cmp v2 (((v1 : Int32).toInt64) <<< ((52 : Int32).toInt64 &&& 63)))]) (w' := ([] : List ev_E)) [] 6 (by with_unfolding_all rfl) trivial ?_
    refine ev_br rfl rfl (fun h1 => ?_) (fun h1 => ?_)
    · replace hR := lf_t h1 hR
      exact ev_to2 (t_X5_doubleBits_b34 F v1 v2 v4 _ hR) ⟨rfl, rfl, rfl, trivial⟩ rfl rfl
    · replace hR := lf_f h1 hR
      refine ev_run (cs := []) (pc' := 12) (L' := [none, some (.int v1), some (.long (2 * v2)), none, some (.int (v4 + 1)), none, none, none, none]) (st' := []) (w' := ([] : List ev_E)) [] 6 (by with_unfolding_all rfl) trivial ?_
      exact ev_to2 (hk12 _ _ hR) ⟨rfl, rfl, rfl, trivial⟩ rfl rfl

def s_X5_doubleBits (F : Nat) (v0 : Int32) (v1 : Int32) : Option Int64 := if v0 = 0 then (some (0)) else (s_X5_doubleBits_l12 F v1 F ((v0 : Int32).toInt64) 0)
set_option maxHeartbeats 4000000 in
set_option maxRecDepth 20000 in
theorem t_X5_doubleBits (F : Nat) (v0 : Int32) (v1 : Int32) (x : Int64) (hR : s_X5_doubleBits F v0 v1 = some x) : ev_A yX5_doubleBits mm_X5_doubleBits none [.int v0, .int v1] (([] : List ev_E)) (fun r w => r = some (.long x) ∧ w = ([] : List ev_E)) := by
  unfold s_X5_doubleBits at hR
  refine ev_start ok_X5_doubleBits (by decide +kernel) rfl rfl (Nat.le_of_ble_eq_true rfl) ?_
  refine ev_run (cs := []) (pc' := 1) (L' := [some (.int v0), some (.int v1), none, none, none, none, none, none, none]) (st' := [.int v0]) (w' := ([] : List ev_E)) [] 1 (by with_unfolding_all rfl) trivial ?_
  refine ev_br rfl rfl (fun h1 => ?_) (fun h1 => ?_)
  · replace hR := lf_f h1 hR
    refine ev_run (cs := []) (pc' := 12) (L' := [some (.int v0), some (.int v1), some (.long ((v0 : Int32).toInt64)), none, some (.int 0), none, none, none, none]) (st' := []) (w' := ([] : List ev_E)) [] 5 (by with_unfolding_all rfl) trivial ?_
    exact ev_to2 (t_X5_doubleBits_l12 F v1 _ F ((v0 : Int32).toInt64) 0 hR) ⟨rfl, rfl, rfl, trivial⟩ rfl rfl
  · replace hR := lf_t h1 hR
    refine ev_run (cs := []) (pc' := 5) (L' := [some (.int v0), some (.int v1), none, none, none, none, none, none, none]) (st' := [.long 0]) (w' := ([] : List ev_E)) [] 1 (by with_unfolding_all rfl) trivial ?_
    cases hR
    exact ev_exit ⟨_, _, rfl, ⟨rfl, rfl⟩, ⟨rfl, rfl⟩, Nat.le_refl _, Nat.le_refl _⟩

def s_X5_digest_b169 (F : Nat) (k98 : S_X5 → Int64 → Int32 → Option (Int64 × S_X5)) (u : S_X5) (v1 : Int64) (v3 : Int32) : Option (Int64 × S_X5) := (s_X5_ringOf F u v3).bind fun y1 => ((s_X5_wouldEnd F y1.2 v3).bind fun y2 => (k98 y2.2 ((31 * ((31 * v1) + ((y1.1 : Int32).toInt64))) + ((y2.1 : Int32).toInt64)) (v3 + 1)))
set_option maxHeartbeats 4000000 in
set_option maxRecDepth 20000 in
theorem t_X5_digest_b169 (F : Nat) (k98 : S_X5 → Int64 → Int32 → Option (Int64 × S_X5)) (u : S_X5) (v1 : Int64) (v3 : Int32) (x : (Int64 × S_X5)) (hk98 : ∀ (u : S_X5) (v1 : Int64) (v3 : Int32), k98 u v1 v3 = some x → ev_V mm_X5_digest none (ev_XR mm_X5_digest (fun r w => r = some (.long x.1) ∧ w = W_X5 x.2)) 98 [some (.ref 0), some (.long v1), none, some (.int v3), none, none] [] (W_X5 u) 0 0) (hR : s_X5_digest_b169 F k98 u v1 v3 = some x) : ev_V mm_X5_digest none (ev_XR mm_X5_digest (fun r w => r = some (.long x.1) ∧ w = W_X5 x.2)) 169 [some (.ref 0), some (.long v1), none, some (.int v3), none, none] [] (W_X5 u) 0 0 := by
  unfold s_X5_digest_b169 at hR
  refine ev_run (cs := []) (pc' := 176) (L' := [some (.ref 0), some (.long v1), none, some (.int v3), none, none]) (st' := [.int v3, .ref 0, .long (31 * v1)]) (w' := W_X5 u) [] 5 (by with_unfolding_all rfl) trivial ?_
  obtain ⟨y1, h1, hR⟩ := lf_b hR
  refine ev_callV1 0 (t_X5_ringOf F u v3 _ h1) cv_X5_ringOf ml_X5_245 rfl rfl rfl (Nat.le_of_ble_eq_true rfl) (by with_unfolding_all rfl) (Nat.le_of_ble_eq_true rfl) ⟨Nat.le_of_ble_eq_true rfl, Nat.le_of_ble_eq_true rfl⟩ ⟨Nat.le_refl _, Nat.le_refl _⟩ ?_ ?_
  · rintro r w ⟨rfl, rfl⟩; rfl
  rintro r w ⟨rfl, rfl⟩
  refine ev_nx (pc' := 179) (st' := [.int y1.1, .long (31 * v1)]) (w' := W_X5 y1.2) rfl rfl (by with_unfolding_all rfl) rfl rfl ?_
  refine ev_run (cs := []) (pc' := 189) (L' := [some (.ref 0), some (.long ((31 * v1) + ((y1.1 : Int32).toInt64))), none, some (.int v3), none, none]) (st' := [.int v3, .ref 0, .long (31 * ((31 * v1) + ((y1.1 : Int32).toInt64)))]) (w' := W_X5 y1.2) [] 8 (by with_unfolding_all rfl) trivial ?_
  obtain ⟨y2, h2, hR⟩ := lf_b hR
  refine ev_callV1 0 (t_X5_wouldEnd F y1.2 v3 _ h2) cv_X5_wouldEnd ml_X5_236 rfl rfl rfl (Nat.le_of_ble_eq_true rfl) (by with_unfolding_all rfl) (Nat.le_of_ble_eq_true rfl) ⟨Nat.le_of_ble_eq_true rfl, Nat.le_of_ble_eq_true rfl⟩ ⟨Nat.le_refl _, Nat.le_refl _⟩ ?_ ?_
  · rintro r w ⟨rfl, rfl⟩; rfl
  rintro r w ⟨rfl, rfl⟩
  refine ev_nx (pc' := 192) (st' := [.int y2.1, .long (31 * ((31 * v1) + ((y1.1 : Int32).toInt64)))]) (w' := W_X5 y2.2) rfl rfl (by with_unfolding_all rfl) rfl rfl ?_
  refine ev_run (cs := []) (pc' := 98) (L' := [some (.ref 0), some (.long ((31 * ((31 * v1) + ((y1.1 : Int32).toInt64))) + ((y2.1 : Int32).toInt64))), none, some (.int (v3 + 1)), none, none]) (st' := []) (w' := W_X5 y2.2) [] 5 (by with_unfolding_all rfl) trivial ?_
  exact ev_to2 (hk98 _ _ _ hR) ⟨rfl, rfl, rfl, trivial⟩ rfl rfl

def s_X5_digest_l142 (F : Nat) (u : S_X5) (v3 : Int32) (k98 : S_X5 → Int64 → Int32 → Option (Int64 × S_X5)) : Nat → Int64 → Int32 → Option (Int64 × S_X5)
  | 0 => fun _ _ => none
  | n + 1 => fun v1 v4 => if 4 ≤ v4 then (s_X5_digest_b169 F k98 u v1 v3) else ((s_X5_slotOf F u v3 v4).bind fun y1 => (s_X5_digest_l142 F u v3 k98 n ((31 * v1) + ((y1 : Int32).toInt64)) (v4 + 1)))
theorem e_X5_digest_l142 (F : Nat) (u : S_X5) (v3 : Int32) (k98 : S_X5 → Int64 → Int32 → Option (Int64 × S_X5)) (n : Nat) (v1 : Int64) (v4 : Int32) : s_X5_digest_l142 F u v3 k98 (n + 1) v1 v4 = if 4 ≤ v4 then (s_X5_digest_b169 F k98 u v1 v3) else ((s_X5_slotOf F u v3 v4).bind fun y1 => (s_X5_digest_l142 F u v3 k98 n ((31 * v1) + ((y1 : Int32).toInt64)) (v4 + 1))) := rfl
set_option maxHeartbeats 4000000 in
set_option maxRecDepth 20000 in
theorem t_X5_digest_l142 (F : Nat) (u : S_X5) (v3 : Int32) (k98 : S_X5 → Int64 → Int32 → Option (Int64 × S_X5)) (x : (Int64 × S_X5)) (hk98 : ∀ (u : S_X5) (v1 : Int64) (v3 : Int32), k98 u v1 v3 = some x → ev_V mm_X5_digest none (ev_XR mm_X5_digest (fun r w => r = some (.long x.1) ∧ w = W_X5 x.2)) 98 [some (.ref 0), some (.long v1), none, some (.int v3), none, none] [] (W_X5 u) 0 0) : ∀ (n : Nat) (v1 : Int64) (v4 : Int32), s_X5_digest_l142 F u v3 k98 n v1 v4 = some x → ev_V mm_X5_digest none (ev_XR mm_X5_digest (fun r w => r = some (.long x.1) ∧ w = W_X5 x.2)) 142 [some (.ref 0), some (.long v1), none, some (.int v3), some (.int v4), none] [] (W_X5 u) 0 0 := by
  intro n
  induction n with
  | zero => intro v1 v4 hR; cases hR
  | succ n hk142 =>
    intro v1 v4 hR
    unfold s_X5_digest_l142 at hR
    refine ev_run (cs := []) (pc' := 145) (L' := [some (.ref 0), some (.long v1), none, some (.int v3), some (.int v4), none]) (st' := [.int 4, .int v4]) (w' := W_X5 u) [] 2 (by with_unfolding_all rfl) trivial ?_
    refine ev_br rfl rfl (fun h1 => ?_) (fun h1 => ?_)
    · replace hR := lf_t h1 hR
      exact ev_to2 (t_X5_digest_b169 F k98 u v1 v3 _ hk98 hR) ⟨rfl, rfl, rfl, trivial⟩ rfl rfl
    · replace hR := lf_f h1 hR
      refine ev_run (cs := []) (pc' := 157) (L' := [some (.ref 0), some (.long v1), none, some (.int v3), some (.int v4), none]) (st' := [.int v4, .int v3, .ref 0, .long (31 * v1)]) (w' := W_X5 u) [] 6 (by with_unfolding_all rfl) trivial ?_
      obtain ⟨y1, h2, hR⟩ := lf_b hR
      refine ev_callV1 0 (t_X5_slotOf F u v3 v4 _ h2) cv_X5_slotOf ml_X5_58 rfl rfl rfl (Nat.le_of_ble_eq_true rfl) (by with_unfolding_all rfl) (Nat.le_of_ble_eq_true rfl) ⟨Nat.le_of_ble_eq_true rfl, Nat.le_of_ble_eq_true rfl⟩ ⟨Nat.le_refl _, Nat.le_refl _⟩ ?_ ?_
      · rintro r w ⟨rfl, rfl⟩; rfl
      rintro r w ⟨rfl, rfl⟩
      refine ev_nx (pc' := 160) (st' := [.int y1, .long (31 * v1)]) (w' := W_X5 u) rfl rfl (by with_unfolding_all rfl) rfl rfl ?_
      refine ev_run (cs := []) (pc' := 142) (L' := [some (.ref 0), some (.long ((31 * v1) + ((y1 : Int32).toInt64))), none, some (.int v3), some (.int (v4 + 1)), none]) (st' := []) (w' := W_X5 u) [] 5 (by with_unfolding_all rfl) trivial ?_
      exact ev_to2 (hk142 _ _ hR) ⟨rfl, rfl, rfl, rfl, trivial⟩ rfl rfl

def s_X5_digest_l111 (F : Nat) (v3 : Int32) (k98 : S_X5 → Int64 → Int32 → Option (Int64 × S_X5)) : Nat → S_X5 → Int64 → Int32 → Option (Int64 × S_X5)
  | 0 => fun _ _ _ => none
  | n + 1 => fun u v1 v4 => if 12 < v4 then (s_X5_digest_l142 F u v3 k98 F v1 0) else ((s_X5_thingPart F u v3 v4).bind fun y1 => (s_X5_digest_l111 F v3 k98 n y1.2 ((31 * v1) + ((y1.1 : Int32).toInt64)) (v4 + 1)))
theorem e_X5_digest_l111 (F : Nat) (v3 : Int32) (k98 : S_X5 → Int64 → Int32 → Option (Int64 × S_X5)) (n : Nat) (u : S_X5) (v1 : Int64) (v4 : Int32) : s_X5_digest_l111 F v3 k98 (n + 1) u v1 v4 = if 12 < v4 then (s_X5_digest_l142 F u v3 k98 F v1 0) else ((s_X5_thingPart F u v3 v4).bind fun y1 => (s_X5_digest_l111 F v3 k98 n y1.2 ((31 * v1) + ((y1.1 : Int32).toInt64)) (v4 + 1))) := rfl
set_option maxHeartbeats 4000000 in
set_option maxRecDepth 20000 in
theorem t_X5_digest_l111 (F : Nat) (v3 : Int32) (k98 : S_X5 → Int64 → Int32 → Option (Int64 × S_X5)) (x : (Int64 × S_X5)) (hk98 : ∀ (u : S_X5) (v1 : Int64) (v3 : Int32), k98 u v1 v3 = some x → ev_V mm_X5_digest none (ev_XR mm_X5_digest (fun r w => r = some (.long x.1) ∧ w = W_X5 x.2)) 98 [some (.ref 0), some (.long v1), none, some (.int v3), none, none] [] (W_X5 u) 0 0) : ∀ (n : Nat) (u : S_X5) (v1 : Int64) (v4 : Int32), s_X5_digest_l111 F v3 k98 n u v1 v4 = some x → ev_V mm_X5_digest none (ev_XR mm_X5_digest (fun r w => r = some (.long x.1) ∧ w = W_X5 x.2)) 111 [some (.ref 0), some (.long v1), none, some (.int v3), some (.int v4), none] [] (W_X5 u) 0 0 := by
  intro n
  induction n with
  | zero => intro u v1 v4 hR; cases hR
  | succ n hk111 =>
    intro u v1 v4 hR
    unfold s_X5_digest_l111 at hR
    refine ev_run (cs := []) (pc' := 115) (L' := [some (.ref 0), some (.long v1), none, some (.int v3), some (.int v4), none]) (st' := [.int 12, .int v4]) (w' := W_X5 u) [] 2 (by with_unfolding_all rfl) trivial ?_
    refine ev_br rfl rfl (fun h1 => ?_) (fun h1 => ?_)
    · replace hR := lf_t h1 hR
      refine ev_run (cs := []) (pc' := 142) (L' := [some (.ref 0), some (.long v1), none, some (.int v3), some (.int 0), none]) (st' := []) (w' := W_X5 u) [] 2 (by with_unfolding_all rfl) trivial ?_
      exact ev_to2 (t_X5_digest_l142 F u v3 k98 _ hk98 F v1 0 hR) ⟨rfl, rfl, rfl, rfl, trivial⟩ rfl rfl
    · replace hR := lf_f h1 hR
      refine ev_run (cs := []) (pc' := 127) (L' := [some (.ref 0), some (.long v1), none, some (.int v3), some (.int v4), none]) (st' := [.int v4, .int v3, .ref 0, .long (31 * v1)]) (w' := W_X5 u) [] 6 (by with_unfolding_all rfl) trivial ?_
      obtain ⟨y1, h2, hR⟩ := lf_b hR
      refine ev_callV1 0 (t_X5_thingPart F u v3 v4 _ h2) cv_X5_thingPart ml_X5_215 rfl rfl rfl (Nat.le_of_ble_eq_true rfl) (by with_unfolding_all rfl) (Nat.le_of_ble_eq_true rfl) ⟨Nat.le_of_ble_eq_true rfl, Nat.le_of_ble_eq_true rfl⟩ ⟨Nat.le_refl _, Nat.le_refl _⟩ ?_ ?_
      · rintro r w ⟨rfl, rfl⟩; rfl
      rintro r w ⟨rfl, rfl⟩
      refine ev_nx (pc' := 130) (st' := [.int y1.1, .long (31 * v1)]) (w' := W_X5 y1.2) rfl rfl (by with_unfolding_all rfl) rfl rfl ?_
      refine ev_run (cs := []) (pc' := 111) (L' := [some (.ref 0), some (.long ((31 * v1) + ((y1.1 : Int32).toInt64))), none, some (.int v3), some (.int (v4 + 1)), none]) (st' := []) (w' := W_X5 y1.2) [] 5 (by with_unfolding_all rfl) trivial ?_
      exact ev_to2 (hk111 _ _ _ hR) ⟨rfl, rfl, rfl, rfl, trivial⟩ rfl rfl

def s_X5_digest_l223 (F : Nat) (u : S_X5) (v3 : Int32) (v4 : Int32) (k203 : Int64 → Int32 → Option (Int64 × S_X5)) : Nat → Int64 → Int32 → Option (Int64 × S_X5)
  | 0 => fun _ _ => none
  | n + 1 => fun v1 v5 => if 4 < v5 then (k203 v1 (v3 + 1)) else ((s_X5_reportPart F u v4 v5).bind fun y1 => (s_X5_digest_l223 F u v3 v4 k203 n ((31 * v1) + ((y1 : Int32).toInt64)) (v5 + 1)))
theorem e_X5_digest_l223 (F : Nat) (u : S_X5) (v3 : Int32) (v4 : Int32) (k203 : Int64 → Int32 → Option (Int64 × S_X5)) (n : Nat) (v1 : Int64) (v5 : Int32) : s_X5_digest_l223 F u v3 v4 k203 (n + 1) v1 v5 = if 4 < v5 then (k203 v1 (v3 + 1)) else ((s_X5_reportPart F u v4 v5).bind fun y1 => (s_X5_digest_l223 F u v3 v4 k203 n ((31 * v1) + ((y1 : Int32).toInt64)) (v5 + 1))) := rfl
set_option maxHeartbeats 4000000 in
set_option maxRecDepth 20000 in
theorem t_X5_digest_l223 (F : Nat) (u : S_X5) (v3 : Int32) (v4 : Int32) (k203 : Int64 → Int32 → Option (Int64 × S_X5)) (x : (Int64 × S_X5)) (hk203 : ∀ (v1 : Int64) (v3 : Int32), k203 v1 v3 = some x → ev_V mm_X5_digest none (ev_XR mm_X5_digest (fun r w => r = some (.long x.1) ∧ w = W_X5 x.2)) 203 [some (.ref 0), some (.long v1), none, some (.int v3), none, none] [] (W_X5 u) 0 0) : ∀ (n : Nat) (v1 : Int64) (v5 : Int32), s_X5_digest_l223 F u v3 v4 k203 n v1 v5 = some x → ev_V mm_X5_digest none (ev_XR mm_X5_digest (fun r w => r = some (.long x.1) ∧ w = W_X5 x.2)) 223 [some (.ref 0), some (.long v1), none, some (.int v3), some (.int v4), some (.int v5)] [] (W_X5 u) 0 0 := by
  intro n
  induction n with
  | zero => intro v1 v5 hR; cases hR
  | succ n hk223 =>
    intro v1 v5 hR
    unfold s_X5_digest_l223 at hR
    refine ev_run (cs := []) (pc' := 226) (L' := [some (.ref 0), some (.long v1), none, some (.int v3), some (.int v4), some (.int v5)]) (st' := [.int 4, .int v5]) (w' := W_X5 u) [] 2 (by with_unfolding_all rfl) trivial ?_
    refine ev_br rfl rfl (fun h1 => ?_) (fun h1 => ?_)
    · replace hR := lf_t h1 hR
      refine ev_run (cs := []) (pc' := 203) (L' := [some (.ref 0), some (.long v1), none, some (.int (v3 + 1)), some (.int v4), some (.int v5)]) (st' := []) (w' := W_X5 u) [] 2 (by with_unfolding_all rfl) trivial ?_
      exact ev_to2 (hk203 _ _ hR) ⟨rfl, rfl, rfl, trivial⟩ rfl rfl
    · replace hR := lf_f h1 hR
      refine ev_run (cs := []) (pc' := 239) (L' := [some (.ref 0), some (.long v1), none, some (.int v3), some (.int v4), some (.int v5)]) (st' := [.int v5, .int v4, .ref 0, .long (31 * v1)]) (w' := W_X5 u) [] 6 (by with_unfolding_all rfl) trivial ?_
      obtain ⟨y1, h2, hR⟩ := lf_b hR
      refine ev_callV1 0 (t_X5_reportPart F u v4 v5 _ h2) cv_X5_reportPart ml_X5_61 rfl rfl rfl (Nat.le_of_ble_eq_true rfl) (by with_unfolding_all rfl) (Nat.le_of_ble_eq_true rfl) ⟨Nat.le_of_ble_eq_true rfl, Nat.le_of_ble_eq_true rfl⟩ ⟨Nat.le_refl _, Nat.le_refl _⟩ ?_ ?_
      · rintro r w ⟨rfl, rfl⟩; rfl
      rintro r w ⟨rfl, rfl⟩
      refine ev_nx (pc' := 242) (st' := [.int y1, .long (31 * v1)]) (w' := W_X5 u) rfl rfl (by with_unfolding_all rfl) rfl rfl ?_
      refine ev_run (cs := []) (pc' := 223) (L' := [some (.ref 0), some (.long ((31 * v1) + ((y1 : Int32).toInt64))), none, some (.int v3), some (.int v4), some (.int (v5 + 1))]) (st' := []) (w' := W_X5 u) [] 5 (by with_unfolding_all rfl) trivial ?_
      exact ev_to2 (hk223 _ _ hR) ⟨rfl, rfl, rfl, rfl, rfl, trivial⟩ rfl rfl

def s_X5_digest_l438 (F : Nat) (u : S_X5) : Nat → Int64 → Int32 → Option (Int64 × S_X5)
  | 0 => fun _ _ => none
  | n + 1 => fun v1 v4 => if (a_X5_textLength u) ≤ v4 then (some (v1, u)) else (if lf_ix v4 60 then (s_X5_digest_l438 F u n ((31 * v1) + (((a_X5_text u) v4.toNatClampNeg : Int32).toInt64)) (v4 + 1)) else none)
theorem e_X5_digest_l438 (F : Nat) (u : S_X5) (n : Nat) (v1 : Int64) (v4 : Int32) : s_X5_digest_l438 F u (n + 1) v1 v4 = if (a_X5_textLength u) ≤ v4 then (some (v1, u)) else (if lf_ix v4 60 then (s_X5_digest_l438 F u n ((31 * v1) + (((a_X5_text u) v4.toNatClampNeg : Int32).toInt64)) (v4 + 1)) else none) := rfl
set_option maxHeartbeats 4000000 in
set_option maxRecDepth 20000 in
theorem t_X5_digest_l438 (F : Nat) (u : S_X5) (x : (Int64 × S_X5))  : ∀ (n : Nat) (v1 : Int64) (v4 : Int32), s_X5_digest_l438 F u n v1 v4 = some x → ev_V mm_X5_digest none (ev_XR mm_X5_digest (fun r w => r = some (.long x.1) ∧ w = W_X5 x.2)) 438 [some (.ref 0), some (.long v1), none, none, some (.int v4), none] [] (W_X5 u) 0 0 := by
  intro n
  induction n with
  | zero => intro v1 v4 hR; cases hR
  | succ n hk438 =>
    intro v1 v4 hR
    unfold s_X5_digest_l438 at hR
    refine ev_run (cs := []) (pc' := 444) (L' := [some (.ref 0), some (.long v1), none, none, some (.int v4), none]) (st' := [.int (a_X5_textLength u), .int v4]) (w' := W_X5 u) [] 3 (by with_unfolding_all rfl) trivial ?_
    refine ev_br rfl rfl (fun h1 => ?_) (fun h1 => ?_)
    · replace hR := lf_t h1 hR
      refine ev_run (cs := []) (pc' := 469) (L' := [some (.ref 0), some (.long v1), none, none, some (.int v4), none]) (st' := [.long v1]) (w' := W_X5 u) [] 1 (by with_unfolding_all rfl) trivial ?_
      cases hR
      exact ev_exit ⟨_, _, rfl, ⟨rfl, rfl⟩, ⟨rfl, rfl⟩, Nat.le_refl _, Nat.le_refl _⟩
    · replace hR := lf_f h1 hR
      obtain ⟨h2, hR⟩ := lf_g hR
      refine ev_run (cs := [lf_ix v4 60]) (pc' := 438) (L' := [some (.ref 0), some (.long ((31 * v1) + (((a_X5_text u) v4.toNatClampNeg : Int32).toInt64))), none, none, some (.int (v4 + 1)), none]) (st' := []) (w' := W_X5 u) [] 12 (by with_unfolding_all rfl) (h2) ?_
      exact ev_to2 (hk438 _ _ hR) ⟨rfl, rfl, rfl, trivial⟩ rfl rfl

def s_X5_digest_b421 (F : Nat) (u : S_X5) (p0 : Int64) (p1 : Int64) : Option (Int64 × S_X5) := s_X5_digest_l438 F u F ((31 * (p0 + p1)) + ((a_X5_textLength u : Int32).toInt64)) 0
set_option maxHeartbeats 4000000 in
set_option maxRecDepth 20000 in
theorem t_X5_digest_b421 (F : Nat) (u : S_X5) (p0 : Int64) (p1 : Int64) (x : (Int64 × S_X5))  (hR : s_X5_digest_b421 F u p0 p1 = some x) : ev_V mm_X5_digest none (ev_XR mm_X5_digest (fun r w => r = some (.long x.1) ∧ w = W_X5 x.2)) 421 [some (.ref 0), none, none, none, none, none] [.long p1, .long p0] (W_X5 u) 0 0 := by
  unfold s_X5_digest_b421 at hR
  refine ev_run (cs := []) (pc' := 438) (L' := [some (.ref 0), some (.long ((31 * (p0 + p1)) + ((a_X5_textLength u : Int32).toInt64))), none, none, some (.int 0), none]) (st' := []) (w' := W_X5 u) [] 12 (by with_unfolding_all rfl) trivial ?_
  exact ev_to2 (t_X5_digest_l438 F u _ F ((31 * (p0 + p1)) + ((a_X5_textLength u : Int32).toInt64)) 0 hR) ⟨rfl, rfl, rfl, trivial⟩ rfl rfl

def s_X5_digest_b395 (F : Nat) (u : S_X5) (v1 : Int64) : Option (Int64 × S_X5) := (s_X5_living F u).bind fun y1 => (if y1 = 0 then (s_X5_digest_b421 F u (31 * v1) 0) else ((s_X5_findReached F u).bind fun y2 => ((s_X5_doubleBits F y2.1 y1).bind fun y3 => (s_X5_digest_b421 F y2.2 (31 * v1) y3))))
set_option maxHeartbeats 4000000 in
set_option maxRecDepth 20000 in
theorem t_X5_digest_b395 (F : Nat) (u : S_X5) (v1 : Int64) (x : (Int64 × S_X5))  (hR : s_X5_digest_b395 F u v1 = some x) : ev_V mm_X5_digest none (ev_XR mm_X5_digest (fun r w => r = some (.long x.1) ∧ w = W_X5 x.2)) 395 [some (.ref 0), some (.long v1), none, none, none, none] [] (W_X5 u) 0 0 := by
  unfold s_X5_digest_b395 at hR
  refine ev_run (cs := []) (pc' := 396) (L' := [some (.ref 0), some (.long v1), none, none, none, none]) (st' := [.ref 0]) (w' := W_X5 u) [] 1 (by with_unfolding_all rfl) trivial ?_
  obtain ⟨y1, h1, hR⟩ := lf_b hR
  refine ev_callV1 0 (t_X5_living F u _ h1) cv_X5_living ml_X5_221 rfl rfl rfl (Nat.le_of_ble_eq_true rfl) (by with_unfolding_all rfl) (Nat.le_of_ble_eq_true rfl) ⟨Nat.le_of_ble_eq_true rfl, Nat.le_of_ble_eq_true rfl⟩ ⟨Nat.le_refl _, Nat.le_refl _⟩ ?_ ?_
  · rintro r w ⟨rfl, rfl⟩; rfl
  rintro r w ⟨rfl, rfl⟩
  refine ev_nx (pc' := 399) (st' := [.int y1]) (w' := W_X5 u) rfl rfl (by with_unfolding_all rfl) rfl rfl ?_
  refine ev_run (cs := []) (pc' := 406) (L' := [some (.ref 0), some (.long v1), none, some (.int y1), none, none]) (st' := [.int y1, .long (31 * v1)]) (w' := W_X5 u) [] 5 (by with_unfolding_all rfl) trivial ?_
  refine ev_br rfl rfl (fun h2 => ?_) (fun h2 => ?_)
  · replace hR := lf_f h2 hR
    refine ev_run (cs := []) (pc' := 414) (L' := [some (.ref 0), some (.long v1), none, some (.int y1), none, none]) (st' := [.ref 0, .long (31 * v1)]) (w' := W_X5 u) [] 1 (by with_unfolding_all rfl) trivial ?_
    obtain ⟨y2, h3, hR⟩ := lf_b hR
    refine ev_callV1 0 (t_X5_findReached F u _ h3) cv_X5_findReached ml_X5_212 rfl rfl rfl (Nat.le_of_ble_eq_true rfl) (by with_unfolding_all rfl) (Nat.le_of_ble_eq_true rfl) ⟨Nat.le_of_ble_eq_true rfl, Nat.le_of_ble_eq_true rfl⟩ ⟨Nat.le_refl _, Nat.le_refl _⟩ ?_ ?_
    · rintro r w ⟨rfl, rfl⟩; rfl
    rintro r w ⟨rfl, rfl⟩
    refine ev_nx (pc' := 417) (st' := [.int y2.1, .long (31 * v1)]) (w' := W_X5 y2.2) rfl rfl (by with_unfolding_all rfl) rfl rfl ?_
    refine ev_run (cs := []) (pc' := 418) (L' := [some (.ref 0), some (.long v1), none, some (.int y1), none, none]) (st' := [.int y1, .int y2.1, .long (31 * v1)]) (w' := W_X5 y2.2) [] 1 (by with_unfolding_all rfl) trivial ?_
    obtain ⟨y3, h4, hR⟩ := lf_b hR
    refine ev_callS1 0 (t_X5_doubleBits F y2.1 y1 _ h4) cs_X5_doubleBits ml_X5_262 rfl rfl rfl (Nat.le_of_ble_eq_true rfl) (by with_unfolding_all rfl) (Nat.le_of_ble_eq_true rfl) ⟨Nat.le_of_ble_eq_true rfl, Nat.le_of_ble_eq_true rfl⟩ ⟨Nat.le_refl _, Nat.le_refl _⟩ ?_ ?_
    · rintro r w ⟨rfl, rfl⟩; rfl
    rintro r w ⟨rfl, rfl⟩
    refine ev_nx (pc' := 421) (st' := [.long y3, .long (31 * v1)]) (w' := W_X5 y2.2) rfl rfl (by with_unfolding_all rfl) rfl rfl ?_
    exact ev_to2 (t_X5_digest_b421 F y2.2 (31 * v1) y3 _ hR) ⟨rfl, trivial⟩ rfl rfl
  · replace hR := lf_t h2 hR
    refine ev_run (cs := []) (pc' := 421) (L' := [some (.ref 0), some (.long v1), none, some (.int y1), none, none]) (st' := [.long 0, .long (31 * v1)]) (w' := W_X5 u) [] 2 (by with_unfolding_all rfl) trivial ?_
    exact ev_to2 (t_X5_digest_b421 F u (31 * v1) 0 _ hR) ⟨rfl, trivial⟩ rfl rfl

def s_X5_digest_b347 (F : Nat) (u : S_X5) (v1 : Int64) : Option (Int64 × S_X5) := (s_X5_cut F u 0).bind fun y1 => ((s_X5_cut F y1.2 1).bind fun y2 => (if ((a_X5_state y2.2) (1 : Int32).toNatClampNeg) ≤ 0 then (s_X5_digest_b395 F y2.2 ((31 * ((31 * v1) + ((y1.1 : Int32).toInt64))) + ((y2.1 : Int32).toInt64))) else ((s_X5_wouldBear F y2.2 0).bind fun y3 => (s_X5_digest_b395 F y3.2 ((31 * ((31 * ((31 * v1) + ((y1.1 : Int32).toInt64))) + ((y2.1 : Int32).toInt64))) + ((y3.1 : Int32).toInt64))))))
set_option maxHeartbeats 4000000 in
set_option maxRecDepth 20000 in
theorem t_X5_digest_b347 (F : Nat) (u : S_X5) (v1 : Int64) (x : (Int64 × S_X5))  (hR : s_X5_digest_b347 F u v1 = some x) : ev_V mm_X5_digest none (ev_XR mm_X5_digest (fun r w => r = some (.long x.1) ∧ w = W_X5 x.2)) 347 [some (.ref 0), some (.long v1), none, none, none, none] [] (W_X5 u) 0 0 := by
  unfold s_X5_digest_b347 at hR
  refine ev_run (cs := []) (pc' := 354) (L' := [some (.ref 0), some (.long v1), none, none, none, none]) (st' := [.int 0, .ref 0, .long (31 * v1)]) (w' := W_X5 u) [] 5 (by with_unfolding_all rfl) trivial ?_
  obtain ⟨y1, h1, hR⟩ := lf_b hR
  refine ev_callV1 0 (t_X5_cut F u 0 _ h1) cv_X5_cut ml_X5_248 rfl rfl rfl (Nat.le_of_ble_eq_true rfl) (by with_unfolding_all rfl) (Nat.le_of_ble_eq_true rfl) ⟨Nat.le_of_ble_eq_true rfl, Nat.le_of_ble_eq_true rfl⟩ ⟨Nat.le_refl _, Nat.le_refl _⟩ ?_ ?_
  · rintro r w ⟨rfl, rfl⟩; rfl
  rintro r w ⟨rfl, rfl⟩
  refine ev_nx (pc' := 357) (st' := [.int y1.1, .long (31 * v1)]) (w' := W_X5 y1.2) rfl rfl (by with_unfolding_all rfl) rfl rfl ?_
  refine ev_run (cs := []) (pc' := 367) (L' := [some (.ref 0), some (.long ((31 * v1) + ((y1.1 : Int32).toInt64))), none, none, none, none]) (st' := [.int 1, .ref 0, .long (31 * ((31 * v1) + ((y1.1 : Int32).toInt64)))]) (w' := W_X5 y1.2) [] 8 (by with_unfolding_all rfl) trivial ?_
  obtain ⟨y2, h2, hR⟩ := lf_b hR
  refine ev_callV1 0 (t_X5_cut F y1.2 1 _ h2) cv_X5_cut ml_X5_248 rfl rfl rfl (Nat.le_of_ble_eq_true rfl) (by with_unfolding_all rfl) (Nat.le_of_ble_eq_true rfl) ⟨Nat.le_of_ble_eq_true rfl, Nat.le_of_ble_eq_true rfl⟩ ⟨Nat.le_refl _, Nat.le_refl _⟩ ?_ ?_
  · rintro r w ⟨rfl, rfl⟩; rfl
  rintro r w ⟨rfl, rfl⟩
  refine ev_nx (pc' := 370) (st' := [.int y2.1, .long (31 * ((31 * v1) + ((y1.1 : Int32).toInt64)))]) (w' := W_X5 y2.2) rfl rfl (by with_unfolding_all rfl) rfl rfl ?_
  refine ev_run (cs := [lf_ix 1 20377]) (pc' := 379) (L' := [some (.ref 0), some (.long ((31 * ((31 * v1) + ((y1.1 : Int32).toInt64))) + ((y2.1 : Int32).toInt64))), none, none, none, none]) (st' := [.int ((a_X5_state y2.2) (1 : Int32).toNatClampNeg)]) (w' := W_X5 y2.2) [] 7 (by with_unfolding_all rfl) (by show ¬ _; decide) ?_
  refine ev_br rfl rfl (fun h3 => ?_) (fun h3 => ?_)
  · replace hR := lf_t h3 hR
    exact ev_to2 (t_X5_digest_b395 F y2.2 ((31 * ((31 * v1) + ((y1.1 : Int32).toInt64))) + ((y2.1 : Int32).toInt64)) _ hR) ⟨rfl, rfl, trivial⟩ rfl rfl
  · replace hR := lf_f h3 hR
    refine ev_run (cs := []) (pc' := 389) (L' := [some (.ref 0), some (.long ((31 * ((31 * v1) + ((y1.1 : Int32).toInt64))) + ((y2.1 : Int32).toInt64))), none, none, none, none]) (st' := [.int 0, .ref 0, .long (31 * ((31 * ((31 * v1) + ((y1.1 : Int32).toInt64))) + ((y2.1 : Int32).toInt64)))]) (w' := W_X5 y2.2) [] 5 (by with_unfolding_all rfl) trivial ?_
    obtain ⟨y3, h4, hR⟩ := lf_b hR
    refine ev_callV1 0 (t_X5_wouldBear F y2.2 0 _ h4) cv_X5_wouldBear ml_X5_251 rfl rfl rfl (Nat.le_of_ble_eq_true rfl) (by with_unfolding_all rfl) (Nat.le_of_ble_eq_true rfl) ⟨Nat.le_of_ble_eq_true rfl, Nat.le_of_ble_eq_true rfl⟩ ⟨Nat.le_refl _, Nat.le_refl _⟩ ?_ ?_
    · rintro r w ⟨rfl, rfl⟩; rfl
    rintro r w ⟨rfl, rfl⟩
    refine ev_nx (pc' := 392) (st' := [.int y3.1, .long (31 * ((31 * ((31 * v1) + ((y1.1 : Int32).toInt64))) + ((y2.1 : Int32).toInt64)))]) (w' := W_X5 y3.2) rfl rfl (by with_unfolding_all rfl) rfl rfl ?_
    refine ev_run (cs := []) (pc' := 395) (L' := [some (.ref 0), some (.long ((31 * ((31 * ((31 * v1) + ((y1.1 : Int32).toInt64))) + ((y2.1 : Int32).toInt64))) + ((y3.1 : Int32).toInt64))), none, none, none, none]) (st' := []) (w' := W_X5 y3.2) [] 3 (by with_unfolding_all rfl) trivial ?_
    exact ev_to2 (t_X5_digest_b395 F y3.2 ((31 * ((31 * ((31 * v1) + ((y1.1 : Int32).toInt64))) + ((y2.1 : Int32).toInt64))) + ((y3.1 : Int32).toInt64)) _ hR) ⟨rfl, rfl, trivial⟩ rfl rfl

def s_X5_digest_l323 (F : Nat) : Nat → S_X5 → Int64 → Int32 → Option (Int64 × S_X5)
  | 0 => fun _ _ _ => none
  | n + 1 => fun u v1 v3 => if 2 < v3 then (s_X5_digest_b347 F u v1) else ((s_X5_wouldTry F u v3).bind fun y1 => (s_X5_digest_l323 F n y1.2 ((31 * v1) + ((y1.1 : Int32).toInt64)) (v3 + 1)))
theorem e_X5_digest_l323 (F : Nat) (n : Nat) (u : S_X5) (v1 : Int64) (v3 : Int32) : s_X5_digest_l323 F (n + 1) u v1 v3 = if 2 < v3 then (s_X5_digest_b347 F u v1) else ((s_X5_wouldTry F u v3).bind fun y1 => (s_X5_digest_l323 F n y1.2 ((31 * v1) + ((y1.1 : Int32).toInt64)) (v3 + 1))) := rfl
set_option maxHeartbeats 4000000 in
set_option maxRecDepth 20000 in
theorem t_X5_digest_l323 (F : Nat) (x : (Int64 × S_X5))  : ∀ (n : Nat) (u : S_X5) (v1 : Int64) (v3 : Int32), s_X5_digest_l323 F n u v1 v3 = some x → ev_V mm_X5_digest none (ev_XR mm_X5_digest (fun r w => r = some (.long x.1) ∧ w = W_X5 x.2)) 323 [some (.ref 0), some (.long v1), none, some (.int v3), none, none] [] (W_X5 u) 0 0 := by
  intro n
  induction n with
  | zero => intro u v1 v3 hR; cases hR
  | succ n hk323 =>
    intro u v1 v3 hR
    unfold s_X5_digest_l323 at hR
    refine ev_run (cs := []) (pc' := 325) (L' := [some (.ref 0), some (.long v1), none, some (.int v3), none, none]) (st' := [.int 2, .int v3]) (w' := W_X5 u) [] 2 (by with_unfolding_all rfl) trivial ?_
    refine ev_br rfl rfl (fun h1 => ?_) (fun h1 => ?_)
    · replace hR := lf_t h1 hR
      exact ev_to2 (t_X5_digest_b347 F u v1 _ hR) ⟨rfl, rfl, trivial⟩ rfl rfl
    · replace hR := lf_f h1 hR
      refine ev_run (cs := []) (pc' := 335) (L' := [some (.ref 0), some (.long v1), none, some (.int v3), none, none]) (st' := [.int v3, .ref 0, .long (31 * v1)]) (w' := W_X5 u) [] 5 (by with_unfolding_all rfl) trivial ?_
      obtain ⟨y1, h2, hR⟩ := lf_b hR
      refine ev_callV1 0 (t_X5_wouldTry F u v3 _ h2) cv_X5_wouldTry ml_X5_239 rfl rfl rfl (Nat.le_of_ble_eq_true rfl) (by with_unfolding_all rfl) (Nat.le_of_ble_eq_true rfl) ⟨Nat.le_of_ble_eq_true rfl, Nat.le_of_ble_eq_true rfl⟩ ⟨Nat.le_refl _, Nat.le_refl _⟩ ?_ ?_
      · rintro r w ⟨rfl, rfl⟩; rfl
      rintro r w ⟨rfl, rfl⟩
      refine ev_nx (pc' := 338) (st' := [.int y1.1, .long (31 * v1)]) (w' := W_X5 y1.2) rfl rfl (by with_unfolding_all rfl) rfl rfl ?_
      refine ev_run (cs := []) (pc' := 323) (L' := [some (.ref 0), some (.long ((31 * v1) + ((y1.1 : Int32).toInt64))), none, some (.int (v3 + 1)), none, none]) (st' := []) (w' := W_X5 y1.2) [] 5 (by with_unfolding_all rfl) trivial ?_
      exact ev_to2 (hk323 _ _ _ hR) ⟨rfl, rfl, rfl, trivial⟩ rfl rfl

def s_X5_digest_l295 (F : Nat) : Nat → S_X5 → Int64 → Int32 → Option (Int64 × S_X5)
  | 0 => fun _ _ _ => none
  | n + 1 => fun u v1 v3 => if 3 < v3 then (s_X5_digest_l323 F F u v1 0) else ((s_X5_wouldPass F u 20 v3).bind fun y1 => (s_X5_digest_l295 F n y1.2 ((31 * v1) + ((y1.1 : Int32).toInt64)) (v3 + 1)))
theorem e_X5_digest_l295 (F : Nat) (n : Nat) (u : S_X5) (v1 : Int64) (v3 : Int32) : s_X5_digest_l295 F (n + 1) u v1 v3 = if 3 < v3 then (s_X5_digest_l323 F F u v1 0) else ((s_X5_wouldPass F u 20 v3).bind fun y1 => (s_X5_digest_l295 F n y1.2 ((31 * v1) + ((y1.1 : Int32).toInt64)) (v3 + 1))) := rfl
set_option maxHeartbeats 4000000 in
set_option maxRecDepth 20000 in
theorem t_X5_digest_l295 (F : Nat) (x : (Int64 × S_X5))  : ∀ (n : Nat) (u : S_X5) (v1 : Int64) (v3 : Int32), s_X5_digest_l295 F n u v1 v3 = some x → ev_V mm_X5_digest none (ev_XR mm_X5_digest (fun r w => r = some (.long x.1) ∧ w = W_X5 x.2)) 295 [some (.ref 0), some (.long v1), none, some (.int v3), none, none] [] (W_X5 u) 0 0 := by
  intro n
  induction n with
  | zero => intro u v1 v3 hR; cases hR
  | succ n hk295 =>
    intro u v1 v3 hR
    unfold s_X5_digest_l295 at hR
    refine ev_run (cs := []) (pc' := 297) (L' := [some (.ref 0), some (.long v1), none, some (.int v3), none, none]) (st' := [.int 3, .int v3]) (w' := W_X5 u) [] 2 (by with_unfolding_all rfl) trivial ?_
    refine ev_br rfl rfl (fun h1 => ?_) (fun h1 => ?_)
    · replace hR := lf_t h1 hR
      refine ev_run (cs := []) (pc' := 323) (L' := [some (.ref 0), some (.long v1), none, some (.int 0), none, none]) (st' := []) (w' := W_X5 u) [] 2 (by with_unfolding_all rfl) trivial ?_
      exact ev_to2 (t_X5_digest_l323 F _ F u v1 0 hR) ⟨rfl, rfl, rfl, trivial⟩ rfl rfl
    · replace hR := lf_f h1 hR
      refine ev_run (cs := []) (pc' := 309) (L' := [some (.ref 0), some (.long v1), none, some (.int v3), none, none]) (st' := [.int v3, .int 20, .ref 0, .long (31 * v1)]) (w' := W_X5 u) [] 6 (by with_unfolding_all rfl) trivial ?_
      obtain ⟨y1, h2, hR⟩ := lf_b hR
      refine ev_callV1 0 (t_X5_wouldPass F u 20 v3 _ h2) cv_X5_wouldPass ml_X5_233 rfl rfl rfl (Nat.le_of_ble_eq_true rfl) (by with_unfolding_all rfl) (Nat.le_of_ble_eq_true rfl) ⟨Nat.le_of_ble_eq_true rfl, Nat.le_of_ble_eq_true rfl⟩ ⟨Nat.le_refl _, Nat.le_refl _⟩ ?_ ?_
      · rintro r w ⟨rfl, rfl⟩; rfl
      rintro r w ⟨rfl, rfl⟩
      refine ev_nx (pc' := 312) (st' := [.int y1.1, .long (31 * v1)]) (w' := W_X5 y1.2) rfl rfl (by with_unfolding_all rfl) rfl rfl ?_
      refine ev_run (cs := []) (pc' := 295) (L' := [some (.ref 0), some (.long ((31 * v1) + ((y1.1 : Int32).toInt64))), none, some (.int (v3 + 1)), none, none]) (st' := []) (w' := W_X5 y1.2) [] 5 (by with_unfolding_all rfl) trivial ?_
      exact ev_to2 (hk295 _ _ _ hR) ⟨rfl, rfl, rfl, trivial⟩ rfl rfl

def s_X5_digest_l259 (F : Nat) (u : S_X5) : Nat → Int64 → Int32 → Option (Int64 × S_X5)
  | 0 => fun _ _ => none
  | n + 1 => fun v1 v3 => if ((a_X5_state u) (4 : Int32).toNatClampNeg) ≤ v3 then (s_X5_digest_l295 F F u v1 0) else (if lf_ix (353 + v3) 20377 then (s_X5_digest_l259 F u n ((31 * v1) + (((a_X5_state u) ((353 + v3).toNatClampNeg) : Int32).toInt64)) (v3 + 1)) else none)
theorem e_X5_digest_l259 (F : Nat) (u : S_X5) (n : Nat) (v1 : Int64) (v3 : Int32) : s_X5_digest_l259 F u (n + 1) v1 v3 = if ((a_X5_state u) (4 : Int32).toNatClampNeg) ≤ v3 then (s_X5_digest_l295 F F u v1 0) else (if lf_ix (353 + v3) 20377 then (s_X5_digest_l259 F u n ((31 * v1) + (((a_X5_state u) ((353 + v3).toNatClampNeg) : Int32).toInt64)) (v3 + 1)) else none) := rfl
set_option maxHeartbeats 4000000 in
set_option maxRecDepth 20000 in
theorem t_X5_digest_l259 (F : Nat) (u : S_X5) (x : (Int64 × S_X5))  : ∀ (n : Nat) (v1 : Int64) (v3 : Int32), s_X5_digest_l259 F u n v1 v3 = some x → ev_V mm_X5_digest none (ev_XR mm_X5_digest (fun r w => r = some (.long x.1) ∧ w = W_X5 x.2)) 259 [some (.ref 0), some (.long v1), none, some (.int v3), none, none] [] (W_X5 u) 0 0 := by
  intro n
  induction n with
  | zero => intro v1 v3 hR; cases hR
  | succ n hk259 =>
    intro v1 v3 hR
    unfold s_X5_digest_l259 at hR
    refine ev_run (cs := [lf_ix 4 20377]) (pc' := 266) (L' := [some (.ref 0), some (.long v1), none, some (.int v3), none, none]) (st' := [.int ((a_X5_state u) (4 : Int32).toNatClampNeg), .int v3]) (w' := W_X5 u) [] 5 (by with_unfolding_all rfl) (by show ¬ _; decide) ?_
    refine ev_br rfl rfl (fun h1 => ?_) (fun h1 => ?_)
    · replace hR := lf_t h1 hR
      refine ev_run (cs := []) (pc' := 295) (L' := [some (.ref 0), some (.long v1), none, some (.int 0), none, none]) (st' := []) (w' := W_X5 u) [] 2 (by with_unfolding_all rfl) trivial ?_
      exact ev_to2 (t_X5_digest_l295 F _ F u v1 0 hR) ⟨rfl, rfl, rfl, trivial⟩ rfl rfl
    · replace hR := lf_f h1 hR
      obtain ⟨h2, hR⟩ := lf_g hR
      refine ev_run (cs := [lf_ix (353 + v3) 20377]) (pc' := 287) (L' := [some (.ref 0), some (.long ((31 * v1) + (((a_X5_state u) ((353 + v3).toNatClampNeg) : Int32).toInt64))), none, some (.int v3), none, none]) (st' := []) (w' := W_X5 u) [] 12 (by with_unfolding_all rfl) (h2) ?_
      refine ev_run (cs := []) (pc' := 259) (L' := [some (.ref 0), some (.long ((31 * v1) + (((a_X5_state u) ((353 + v3).toNatClampNeg) : Int32).toInt64))), none, some (.int (v3 + 1)), none, none]) (st' := []) (w' := W_X5 u) [] 2 (by with_unfolding_all rfl) trivial ?_
      exact ev_to2 (hk259 _ _ hR) ⟨rfl, rfl, rfl, trivial⟩ rfl rfl

def s_X5_digest_l203 (F : Nat) (u : S_X5) : Nat → Int64 → Int32 → Option (Int64 × S_X5)
  | 0 => fun _ _ => none
  | n + 1 => fun v1 v3 => if ((a_X5_state u) (3 : Int32).toNatClampNeg) ≤ v3 then (s_X5_digest_l259 F u F v1 0) else ((s_X5_atPlace F u v3).bind fun y1 => (s_X5_digest_l223 F u v3 y1 (s_X5_digest_l203 F u n) F v1 0))
theorem e_X5_digest_l203 (F : Nat) (u : S_X5) (n : Nat) (v1 : Int64) (v3 : Int32) : s_X5_digest_l203 F u (n + 1) v1 v3 = if ((a_X5_state u) (3 : Int32).toNatClampNeg) ≤ v3 then (s_X5_digest_l259 F u F v1 0) else ((s_X5_atPlace F u v3).bind fun y1 => (s_X5_digest_l223 F u v3 y1 (s_X5_digest_l203 F u n) F v1 0)) := rfl
set_option maxHeartbeats 4000000 in
set_option maxRecDepth 20000 in
theorem t_X5_digest_l203 (F : Nat) (u : S_X5) (x : (Int64 × S_X5))  : ∀ (n : Nat) (v1 : Int64) (v3 : Int32), s_X5_digest_l203 F u n v1 v3 = some x → ev_V mm_X5_digest none (ev_XR mm_X5_digest (fun r w => r = some (.long x.1) ∧ w = W_X5 x.2)) 203 [some (.ref 0), some (.long v1), none, some (.int v3), none, none] [] (W_X5 u) 0 0 := by
  intro n
  induction n with
  | zero => intro v1 v3 hR; cases hR
  | succ n hk203 =>
    intro v1 v3 hR
    unfold s_X5_digest_l203 at hR
    refine ev_run (cs := [lf_ix 3 20377]) (pc' := 210) (L' := [some (.ref 0), some (.long v1), none, some (.int v3), none, none]) (st' := [.int ((a_X5_state u) (3 : Int32).toNatClampNeg), .int v3]) (w' := W_X5 u) [] 5 (by with_unfolding_all rfl) (by show ¬ _; decide) ?_
    refine ev_br rfl rfl (fun h1 => ?_) (fun h1 => ?_)
    · replace hR := lf_t h1 hR
      refine ev_run (cs := []) (pc' := 259) (L' := [some (.ref 0), some (.long v1), none, some (.int 0), none, none]) (st' := []) (w' := W_X5 u) [] 2 (by with_unfolding_all rfl) trivial ?_
      exact ev_to2 (t_X5_digest_l259 F u _ F v1 0 hR) ⟨rfl, rfl, rfl, trivial⟩ rfl rfl
    · replace hR := lf_f h1 hR
      refine ev_run (cs := []) (pc' := 215) (L' := [some (.ref 0), some (.long v1), none, some (.int v3), none, none]) (st' := [.int v3, .ref 0]) (w' := W_X5 u) [] 2 (by with_unfolding_all rfl) trivial ?_
      obtain ⟨y1, h2, hR⟩ := lf_b hR
      refine ev_callV1 0 (t_X5_atPlace F u v3 _ h2) cv_X5_atPlace ml_X5_218 rfl rfl rfl (Nat.le_of_ble_eq_true rfl) (by with_unfolding_all rfl) (Nat.le_of_ble_eq_true rfl) ⟨Nat.le_of_ble_eq_true rfl, Nat.le_of_ble_eq_true rfl⟩ ⟨Nat.le_refl _, Nat.le_refl _⟩ ?_ ?_
      · rintro r w ⟨rfl, rfl⟩; rfl
      rintro r w ⟨rfl, rfl⟩
      refine ev_nx (pc' := 218) (st' := [.int y1]) (w' := W_X5 u) rfl rfl (by with_unfolding_all rfl) rfl rfl ?_
      refine ev_run (cs := []) (pc' := 223) (L' := [some (.ref 0), some (.long v1), none, some (.int v3), some (.int y1), some (.int 0)]) (st' := []) (w' := W_X5 u) [] 3 (by with_unfolding_all rfl) trivial ?_
      exact ev_to2 (t_X5_digest_l223 F u v3 y1 (s_X5_digest_l203 F u n) _ hk203 F v1 0 hR) ⟨rfl, rfl, rfl, rfl, rfl, trivial⟩ rfl rfl

def s_X5_digest_l98 (F : Nat) : Nat → S_X5 → Int64 → Int32 → Option (Int64 × S_X5)
  | 0 => fun _ _ _ => none
  | n + 1 => fun u v1 v3 => if ((a_X5_state u) (1 : Int32).toNatClampNeg) ≤ v3 then (s_X5_digest_l203 F u F v1 0) else (s_X5_digest_l111 F v3 (s_X5_digest_l98 F n) F u v1 0)
theorem e_X5_digest_l98 (F : Nat) (n : Nat) (u : S_X5) (v1 : Int64) (v3 : Int32) : s_X5_digest_l98 F (n + 1) u v1 v3 = if ((a_X5_state u) (1 : Int32).toNatClampNeg) ≤ v3 then (s_X5_digest_l203 F u F v1 0) else (s_X5_digest_l111 F v3 (s_X5_digest_l98 F n) F u v1 0) := rfl
set_option maxHeartbeats 4000000 in
set_option maxRecDepth 20000 in
theorem t_X5_digest_l98 (F : Nat) (x : (Int64 × S_X5))  : ∀ (n : Nat) (u : S_X5) (v1 : Int64) (v3 : Int32), s_X5_digest_l98 F n u v1 v3 = some x → ev_V mm_X5_digest none (ev_XR mm_X5_digest (fun r w => r = some (.long x.1) ∧ w = W_X5 x.2)) 98 [some (.ref 0), some (.long v1), none, some (.int v3), none, none] [] (W_X5 u) 0 0 := by
  intro n
  induction n with
  | zero => intro u v1 v3 hR; cases hR
  | succ n hk98 =>
    intro u v1 v3 hR
    unfold s_X5_digest_l98 at hR
    refine ev_run (cs := [lf_ix 1 20377]) (pc' := 105) (L' := [some (.ref 0), some (.long v1), none, some (.int v3), none, none]) (st' := [.int ((a_X5_state u) (1 : Int32).toNatClampNeg), .int v3]) (w' := W_X5 u) [] 5 (by with_unfolding_all rfl) (by show ¬ _; decide) ?_
    refine ev_br rfl rfl (fun h1 => ?_) (fun h1 => ?_)
    · replace hR := lf_t h1 hR
      refine ev_run (cs := []) (pc' := 203) (L' := [some (.ref 0), some (.long v1), none, some (.int 0), none, none]) (st' := []) (w' := W_X5 u) [] 2 (by with_unfolding_all rfl) trivial ?_
      exact ev_to2 (t_X5_digest_l203 F u _ F v1 0 hR) ⟨rfl, rfl, rfl, trivial⟩ rfl rfl
    · replace hR := lf_f h1 hR
      refine ev_run (cs := []) (pc' := 111) (L' := [some (.ref 0), some (.long v1), none, some (.int v3), some (.int 0), none]) (st' := []) (w' := W_X5 u) [] 2 (by with_unfolding_all rfl) trivial ?_
      exact ev_to2 (t_X5_digest_l111 F v3 (s_X5_digest_l98 F n) _ hk98 F u v1 0 hR) ⟨rfl, rfl, rfl, rfl, trivial⟩ rfl rfl

def s_X5_digest_l68 (F : Nat) (u : S_X5) : Nat → Int64 → Int32 → Option (Int64 × S_X5)
  | 0 => fun _ _ => none
  | n + 1 => fun v1 v3 => if 4 ≤ v3 then (s_X5_digest_l98 F F u v1 0) else (if lf_ix (13 + v3) 20377 then (s_X5_digest_l68 F u n ((31 * v1) + (((a_X5_state u) ((13 + v3).toNatClampNeg) : Int32).toInt64)) (v3 + 1)) else none)
theorem e_X5_digest_l68 (F : Nat) (u : S_X5) (n : Nat) (v1 : Int64) (v3 : Int32) : s_X5_digest_l68 F u (n + 1) v1 v3 = if 4 ≤ v3 then (s_X5_digest_l98 F F u v1 0) else (if lf_ix (13 + v3) 20377 then (s_X5_digest_l68 F u n ((31 * v1) + (((a_X5_state u) ((13 + v3).toNatClampNeg) : Int32).toInt64)) (v3 + 1)) else none) := rfl
set_option maxHeartbeats 4000000 in
set_option maxRecDepth 20000 in
theorem t_X5_digest_l68 (F : Nat) (u : S_X5) (x : (Int64 × S_X5))  : ∀ (n : Nat) (v1 : Int64) (v3 : Int32), s_X5_digest_l68 F u n v1 v3 = some x → ev_V mm_X5_digest none (ev_XR mm_X5_digest (fun r w => r = some (.long x.1) ∧ w = W_X5 x.2)) 68 [some (.ref 0), some (.long v1), none, some (.int v3), none, none] [] (W_X5 u) 0 0 := by
  intro n
  induction n with
  | zero => intro v1 v3 hR; cases hR
  | succ n hk68 =>
    intro v1 v3 hR
    unfold s_X5_digest_l68 at hR
    refine ev_run (cs := []) (pc' := 70) (L' := [some (.ref 0), some (.long v1), none, some (.int v3), none, none]) (st' := [.int 4, .int v3]) (w' := W_X5 u) [] 2 (by with_unfolding_all rfl) trivial ?_
    refine ev_br rfl rfl (fun h1 => ?_) (fun h1 => ?_)
    · replace hR := lf_t h1 hR
      refine ev_run (cs := []) (pc' := 98) (L' := [some (.ref 0), some (.long v1), none, some (.int 0), none, none]) (st' := []) (w' := W_X5 u) [] 2 (by with_unfolding_all rfl) trivial ?_
      exact ev_to2 (t_X5_digest_l98 F _ F u v1 0 hR) ⟨rfl, rfl, rfl, trivial⟩ rfl rfl
    · replace hR := lf_f h1 hR
      obtain ⟨h2, hR⟩ := lf_g hR
      refine ev_run (cs := [lf_ix (13 + v3) 20377]) (pc' := 90) (L' := [some (.ref 0), some (.long ((31 * v1) + (((a_X5_state u) ((13 + v3).toNatClampNeg) : Int32).toInt64))), none, some (.int v3), none, none]) (st' := []) (w' := W_X5 u) [] 12 (by with_unfolding_all rfl) (h2) ?_
      refine ev_run (cs := []) (pc' := 68) (L' := [some (.ref 0), some (.long ((31 * v1) + (((a_X5_state u) ((13 + v3).toNatClampNeg) : Int32).toInt64))), none, some (.int (v3 + 1)), none, none]) (st' := []) (w' := W_X5 u) [] 2 (by with_unfolding_all rfl) trivial ?_
      exact ev_to2 (hk68 _ _ hR) ⟨rfl, rfl, rfl, trivial⟩ rfl rfl

def s_X5_digest_l38 (F : Nat) (u : S_X5) : Nat → Int64 → Int32 → Option (Int64 × S_X5)
  | 0 => fun _ _ => none
  | n + 1 => fun v1 v3 => if 5 ≤ v3 then (s_X5_digest_l68 F u F v1 0) else (if lf_ix (8 + v3) 20377 then (s_X5_digest_l38 F u n ((31 * v1) + (((a_X5_state u) ((8 + v3).toNatClampNeg) : Int32).toInt64)) (v3 + 1)) else none)
theorem e_X5_digest_l38 (F : Nat) (u : S_X5) (n : Nat) (v1 : Int64) (v3 : Int32) : s_X5_digest_l38 F u (n + 1) v1 v3 = if 5 ≤ v3 then (s_X5_digest_l68 F u F v1 0) else (if lf_ix (8 + v3) 20377 then (s_X5_digest_l38 F u n ((31 * v1) + (((a_X5_state u) ((8 + v3).toNatClampNeg) : Int32).toInt64)) (v3 + 1)) else none) := rfl
set_option maxHeartbeats 4000000 in
set_option maxRecDepth 20000 in
theorem t_X5_digest_l38 (F : Nat) (u : S_X5) (x : (Int64 × S_X5))  : ∀ (n : Nat) (v1 : Int64) (v3 : Int32), s_X5_digest_l38 F u n v1 v3 = some x → ev_V mm_X5_digest none (ev_XR mm_X5_digest (fun r w => r = some (.long x.1) ∧ w = W_X5 x.2)) 38 [some (.ref 0), some (.long v1), none, some (.int v3), none, none] [] (W_X5 u) 0 0 := by
  intro n
  induction n with
  | zero => intro v1 v3 hR; cases hR
  | succ n hk38 =>
    intro v1 v3 hR
    unfold s_X5_digest_l38 at hR
    refine ev_run (cs := []) (pc' := 40) (L' := [some (.ref 0), some (.long v1), none, some (.int v3), none, none]) (st' := [.int 5, .int v3]) (w' := W_X5 u) [] 2 (by with_unfolding_all rfl) trivial ?_
    refine ev_br rfl rfl (fun h1 => ?_) (fun h1 => ?_)
    · replace hR := lf_t h1 hR
      refine ev_run (cs := []) (pc' := 68) (L' := [some (.ref 0), some (.long v1), none, some (.int 0), none, none]) (st' := []) (w' := W_X5 u) [] 2 (by with_unfolding_all rfl) trivial ?_
      exact ev_to2 (t_X5_digest_l68 F u _ F v1 0 hR) ⟨rfl, rfl, rfl, trivial⟩ rfl rfl
    · replace hR := lf_f h1 hR
      obtain ⟨h2, hR⟩ := lf_g hR
      refine ev_run (cs := [lf_ix (8 + v3) 20377]) (pc' := 60) (L' := [some (.ref 0), some (.long ((31 * v1) + (((a_X5_state u) ((8 + v3).toNatClampNeg) : Int32).toInt64))), none, some (.int v3), none, none]) (st' := []) (w' := W_X5 u) [] 12 (by with_unfolding_all rfl) (h2) ?_
      refine ev_run (cs := []) (pc' := 38) (L' := [some (.ref 0), some (.long ((31 * v1) + (((a_X5_state u) ((8 + v3).toNatClampNeg) : Int32).toInt64))), none, some (.int (v3 + 1)), none, none]) (st' := []) (w' := W_X5 u) [] 2 (by with_unfolding_all rfl) trivial ?_
      exact ev_to2 (hk38 _ _ hR) ⟨rfl, rfl, rfl, trivial⟩ rfl rfl

def s_X5_digest_l11 (F : Nat) : Nat → S_X5 → Int64 → Int32 → Option (Int64 × S_X5)
  | 0 => fun _ _ _ => none
  | n + 1 => fun u v1 v3 => if 13 < v3 then (s_X5_digest_l38 F u F v1 0) else ((s_X5_countOf F u v3).bind fun y1 => (s_X5_digest_l11 F n y1.2 ((31 * v1) + ((y1.1 : Int32).toInt64)) (v3 + 1)))
theorem e_X5_digest_l11 (F : Nat) (n : Nat) (u : S_X5) (v1 : Int64) (v3 : Int32) : s_X5_digest_l11 F (n + 1) u v1 v3 = if 13 < v3 then (s_X5_digest_l38 F u F v1 0) else ((s_X5_countOf F u v3).bind fun y1 => (s_X5_digest_l11 F n y1.2 ((31 * v1) + ((y1.1 : Int32).toInt64)) (v3 + 1))) := rfl
set_option maxHeartbeats 4000000 in
set_option maxRecDepth 20000 in
theorem t_X5_digest_l11 (F : Nat) (x : (Int64 × S_X5))  : ∀ (n : Nat) (u : S_X5) (v1 : Int64) (v3 : Int32), s_X5_digest_l11 F n u v1 v3 = some x → ev_V mm_X5_digest none (ev_XR mm_X5_digest (fun r w => r = some (.long x.1) ∧ w = W_X5 x.2)) 11 [some (.ref 0), some (.long v1), none, some (.int v3), none, none] [] (W_X5 u) 0 0 := by
  intro n
  induction n with
  | zero => intro u v1 v3 hR; cases hR
  | succ n hk11 =>
    intro u v1 v3 hR
    unfold s_X5_digest_l11 at hR
    refine ev_run (cs := []) (pc' := 14) (L' := [some (.ref 0), some (.long v1), none, some (.int v3), none, none]) (st' := [.int 13, .int v3]) (w' := W_X5 u) [] 2 (by with_unfolding_all rfl) trivial ?_
    refine ev_br rfl rfl (fun h1 => ?_) (fun h1 => ?_)
    · replace hR := lf_t h1 hR
      refine ev_run (cs := []) (pc' := 38) (L' := [some (.ref 0), some (.long v1), none, some (.int 0), none, none]) (st' := []) (w' := W_X5 u) [] 2 (by with_unfolding_all rfl) trivial ?_
      exact ev_to2 (t_X5_digest_l38 F u _ F v1 0 hR) ⟨rfl, rfl, rfl, trivial⟩ rfl rfl
    · replace hR := lf_f h1 hR
      refine ev_run (cs := []) (pc' := 24) (L' := [some (.ref 0), some (.long v1), none, some (.int v3), none, none]) (st' := [.int v3, .ref 0, .long (31 * v1)]) (w' := W_X5 u) [] 5 (by with_unfolding_all rfl) trivial ?_
      obtain ⟨y1, h2, hR⟩ := lf_b hR
      refine ev_callV1 0 (t_X5_countOf F u v3 _ h2) cv_X5_countOf ml_X5_230 rfl rfl rfl (Nat.le_of_ble_eq_true rfl) (by with_unfolding_all rfl) (Nat.le_of_ble_eq_true rfl) ⟨Nat.le_of_ble_eq_true rfl, Nat.le_of_ble_eq_true rfl⟩ ⟨Nat.le_refl _, Nat.le_refl _⟩ ?_ ?_
      · rintro r w ⟨rfl, rfl⟩; rfl
      rintro r w ⟨rfl, rfl⟩
      refine ev_nx (pc' := 27) (st' := [.int y1.1, .long (31 * v1)]) (w' := W_X5 y1.2) rfl rfl (by with_unfolding_all rfl) rfl rfl ?_
      refine ev_run (cs := []) (pc' := 11) (L' := [some (.ref 0), some (.long ((31 * v1) + ((y1.1 : Int32).toInt64))), none, some (.int (v3 + 1)), none, none]) (st' := []) (w' := W_X5 y1.2) [] 5 (by with_unfolding_all rfl) trivial ?_
      exact ev_to2 (hk11 _ _ _ hR) ⟨rfl, rfl, rfl, trivial⟩ rfl rfl

def s_X5_digest (F : Nat) (u : S_X5) : Option (Int64 × S_X5) := s_X5_digest_l11 F F (m_X5_thrown 0 u) 2389 0
set_option maxHeartbeats 4000000 in
set_option maxRecDepth 20000 in
theorem t_X5_digest (F : Nat) (u : S_X5) (x : (Int64 × S_X5)) (hR : s_X5_digest F u = some x) : ev_A yX5_digest mm_X5_digest none [.ref 0] (W_X5 u) (fun r w => r = some (.long x.1) ∧ w = W_X5 x.2) := by
  unfold s_X5_digest at hR
  refine ev_start ok_X5_digest (by decide +kernel) rfl rfl (Nat.le_of_ble_eq_true rfl) ?_
  refine ev_run (cs := []) (pc' := 11) (L' := [some (.ref 0), some (.long 2389), none, some (.int 0), none, none]) (st' := []) (w' := W_X5 (m_X5_thrown 0 u)) [] 7 (by with_unfolding_all rfl) trivial ?_
  exact ev_to2 (t_X5_digest_l11 F _ F (m_X5_thrown 0 u) 2389 0 hR) ⟨rfl, rfl, rfl, trivial⟩ rfl rfl
