/-! the law's small methods, one by one -/
def hh_L_add : List (Nat × Nat × Nat × Nat) := [(0, 9, 12, 13), (0, 9, 15, 15)]
set_option maxRecDepth 20000 in
theorem rL_add (F : Nat) (S S' : S_X6) (f : Nat → Int64) (v1 : Int32) (z : Int32) (h : s_X4_add_6 F S v1 = some (z, S')) : ev_AH yL_add mm_L_add hh_L_add [.ref 0, .int v1, .ref 140] (WL S f) (fun r w => r = some (.int 0) ∧ w = WL S' (vp_updL f (0 : Int32).toNatClampNeg z.toInt64)) := by
  refine ev_startH ok_L_add (by decide +kernel) rfl rfl (Nat.le_of_ble_eq_true rfl) rfl ⟨rfl, rfl⟩ ?_
  refine ev_run (cs := []) (pc' := 4) (L' := [some (.ref 0), some (.int v1), some (.ref 140), none]) (st' := [.int v1, .ref 0, .int 0, .ref 140]) (w' := WL S f) [] 4 (by with_unfolding_all rfl) trivial ?_
  refine ev_callVp (as1 := [.int v1]) (rest := [.int 0, .ref 140]) (t_X4_add_6 F S v1 (z, S') h) rfl rfl cv_X4_add ml_L_7 rfl rfl rfl (Nat.le_of_ble_eq_true rfl) ⟨Nat.le_of_ble_eq_true rfl, Nat.le_of_ble_eq_true rfl⟩ ⟨Nat.le_refl _, Nat.le_refl _⟩ ?_ ?_
  · rintro r w ⟨rfl, rfl⟩; rw [W6_len, W6_len]
  rintro r w ⟨rfl, rfl⟩
  refine ev_nx (pc' := 7) (st' := [.int z, .int 0, .ref 140]) (w' := WL S' f) rfl rfl rfl rfl rfl ?_
  refine ev_run (cs := [vp_in 0 1]) (pc' := 19) (L' := [some (.ref 0), some (.int v1), some (.ref 140), none]) (st' := [.int 0]) (w' := WL S' (vp_updL f (0 : Int32).toNatClampNeg z.toInt64)) [] 4 (by with_unfolding_all rfl) (by show ¬ _; decide) ?_
  exact ev_exit ⟨_, _, rfl, ⟨rfl, Or.inl rfl⟩, ⟨rfl, rfl⟩, Nat.le_refl _, Nat.le_refl _⟩
set_option maxRecDepth 20000 in
theorem xL_add_1 (F : Nat) (S : S_X6) (f : Nat → Int64) (v1 : Int32) (h : s_X4_add_e F S.1 v1 = some 1) : ev_AH yL_add mm_L_add hh_L_add [.ref 0, .int v1, .ref 140] (WL S f) (fun r w => r = some (.int 1) ∧ w = WL S f) := by
  refine ev_catchH (cl := 0) (as1 := [.int v1]) (rest := [.int 0, .ref 140]) (pci := 4) (idx := 7) (i := 3) (npc := 13) (Li := [some (.ref 0), some (.int v1), some (.ref 140), none]) ok_L_add (by decide +kernel) rfl rfl (Nat.le_of_ble_eq_true rfl) rfl ⟨rfl, rfl⟩ rfl ?_ (th_X4_add_1 F S.1 v1 h) cv_X4_add (ev_has_in (k := 645) (by decide +kernel)) (by decide) rfl (WL4 S f) rfl (Nat.le_of_ble_eq_true rfl) ⟨by decide, by decide⟩ (by decide) [] ⟨0, 9, 12, 13⟩ [⟨0, 9, 15, 15⟩] rfl rfl rfl (fun z hz => absurd hz List.not_mem_nil) (by decide) (Or.inl ⟨3, by decide, rfl, rfl⟩) ?_
  · refine ev_run (cs := []) (pc' := 4) (L' := [some (.ref 0), some (.int v1), some (.ref 140), none]) (st' := [.int v1, .ref 0, .int 0, .ref 140]) (w' := WL S f) [] 4 (by with_unfolding_all rfl) trivial ?_
    exact ev_exit ⟨rfl, rfl, rfl, rfl, rfl, rfl⟩
  · refine ev_run (cs := []) (pc' := 14) (L' := [none, none, none, none]) (st' := [.int 1]) (w' := WL S f) [] 1 (by with_unfolding_all rfl) trivial ?_
    exact ev_exit ⟨_, _, rfl, ⟨rfl, Or.inl rfl⟩, ⟨rfl, rfl⟩, Nat.le_refl _, Nat.le_refl _⟩
set_option maxRecDepth 20000 in
theorem xL_add_2 (F : Nat) (S : S_X6) (f : Nat → Int64) (v1 : Int32) (h : s_X4_add_e F S.1 v1 = some 2) : ev_AH yL_add mm_L_add hh_L_add [.ref 0, .int v1, .ref 140] (WL S f) (fun r w => r = some (.int 2) ∧ w = WL S f) := by
  refine ev_catchH (cl := 1) (as1 := [.int v1]) (rest := [.int 0, .ref 140]) (pci := 4) (idx := 7) (i := 3) (npc := 16) (Li := [some (.ref 0), some (.int v1), some (.ref 140), none]) ok_L_add (by decide +kernel) rfl rfl (Nat.le_of_ble_eq_true rfl) rfl ⟨rfl, rfl⟩ rfl ?_ (th_X4_add_2 F S.1 v1 h) cv_X4_add (ev_has_in (k := 645) (by decide +kernel)) (by decide) rfl (WL4 S f) rfl (Nat.le_of_ble_eq_true rfl) ⟨by decide, by decide⟩ (by decide) [⟨0, 9, 12, 13⟩] ⟨0, 9, 15, 15⟩ [] rfl rfl rfl (fun z hz => by
    simp only [List.mem_cons, List.not_mem_nil, or_false] at hz
    subst hz
    exact ⟨0, by decide, by decide, rfl⟩) (by decide) (Or.inl ⟨3, by decide, rfl, rfl⟩) ?_
  · refine ev_run (cs := []) (pc' := 4) (L' := [some (.ref 0), some (.int v1), some (.ref 140), none]) (st' := [.int v1, .ref 0, .int 0, .ref 140]) (w' := WL S f) [] 4 (by with_unfolding_all rfl) trivial ?_
    exact ev_exit ⟨rfl, rfl, rfl, rfl, rfl, rfl⟩
  · refine ev_run (cs := []) (pc' := 17) (L' := [none, none, none, none]) (st' := [.int 2]) (w' := WL S f) [] 1 (by with_unfolding_all rfl) trivial ?_
    exact ev_exit ⟨_, _, rfl, ⟨rfl, Or.inl rfl⟩, ⟨rfl, rfl⟩, Nat.le_refl _, Nat.le_refl _⟩
def hh_L_take : List (Nat × Nat × Nat × Nat) := [(0, 10, 13, 21), (0, 10, 17, 15)]
set_option maxRecDepth 20000 in
theorem rL_take (F : Nat) (S S' : S_X6) (f : Nat → Int64) (v1 : Int32) (v2 : Int32) (z : Int32) (h : s_X4_take_6 F S v1 v2 = some (z, S')) : ev_AH yL_take mm_L_take hh_L_take [.ref 0, .int v1, .int v2, .ref 140] (WL S f) (fun r w => r = some (.int 0) ∧ w = WL S' (vp_updL f (0 : Int32).toNatClampNeg z.toInt64)) := by
  refine ev_startH ok_L_take (by decide +kernel) rfl rfl (Nat.le_of_ble_eq_true rfl) rfl ⟨rfl, rfl⟩ ?_
  refine ev_run (cs := []) (pc' := 5) (L' := [some (.ref 0), some (.int v1), some (.int v2), some (.ref 140), none]) (st' := [.int v2, .int v1, .ref 0, .int 0, .ref 140]) (w' := WL S f) [] 5 (by with_unfolding_all rfl) trivial ?_
  refine ev_callVp (as1 := [.int v1, .int v2]) (rest := [.int 0, .ref 140]) (t_X4_take_6 F S v1 v2 (z, S') h) rfl rfl cv_X4_take ml_L_17 rfl rfl rfl (Nat.le_of_ble_eq_true rfl) ⟨Nat.le_of_ble_eq_true rfl, Nat.le_of_ble_eq_true rfl⟩ ⟨Nat.le_refl _, Nat.le_refl _⟩ ?_ ?_
  · rintro r w ⟨rfl, rfl⟩; rw [W6_len, W6_len]
  rintro r w ⟨rfl, rfl⟩
  refine ev_nx (pc' := 8) (st' := [.int z, .int 0, .ref 140]) (w' := WL S' f) rfl rfl rfl rfl rfl ?_
  refine ev_run (cs := [vp_in 0 1]) (pc' := 22) (L' := [some (.ref 0), some (.int v1), some (.int v2), some (.ref 140), none]) (st' := [.int 0]) (w' := WL S' (vp_updL f (0 : Int32).toNatClampNeg z.toInt64)) [] 4 (by with_unfolding_all rfl) (by show ¬ _; decide) ?_
  exact ev_exit ⟨_, _, rfl, ⟨rfl, Or.inl rfl⟩, ⟨rfl, rfl⟩, Nat.le_refl _, Nat.le_refl _⟩
set_option maxRecDepth 20000 in
theorem xL_take_1 (F : Nat) (S : S_X6) (f : Nat → Int64) (v1 : Int32) (v2 : Int32) (h : s_X4_take_e F S.1 v1 v2 = some 1) : ev_AH yL_take mm_L_take hh_L_take [.ref 0, .int v1, .int v2, .ref 140] (WL S f) (fun r w => r = some (.int 1) ∧ w = WL S f) := by
  refine ev_catchH (cl := 2) (as1 := [.int v1, .int v2]) (rest := [.int 0, .ref 140]) (pci := 5) (idx := 17) (i := 4) (npc := 15) (Li := [some (.ref 0), some (.int v1), some (.int v2), some (.ref 140), none]) ok_L_take (by decide +kernel) rfl rfl (Nat.le_of_ble_eq_true rfl) rfl ⟨rfl, rfl⟩ rfl ?_ (th_X4_take_1 F S.1 v1 v2 h) cv_X4_take (ev_has_in (k := 674) (by decide +kernel)) (by decide) rfl (WL4 S f) rfl (Nat.le_of_ble_eq_true rfl) ⟨by decide, by decide⟩ (by decide) [] ⟨0, 10, 13, 21⟩ [⟨0, 10, 17, 15⟩] rfl rfl rfl (fun z hz => absurd hz List.not_mem_nil) (by decide) (Or.inr ⟨by decide, rfl⟩) ?_
  · refine ev_run (cs := []) (pc' := 5) (L' := [some (.ref 0), some (.int v1), some (.int v2), some (.ref 140), none]) (st' := [.int v2, .int v1, .ref 0, .int 0, .ref 140]) (w' := WL S f) [] 5 (by with_unfolding_all rfl) trivial ?_
    exact ev_exit ⟨rfl, rfl, rfl, rfl, rfl, rfl⟩
  · refine ev_run (cs := []) (pc' := 16) (L' := [none, none, none, none, none]) (st' := [.int 1]) (w' := WL S f) [] 1 (by with_unfolding_all rfl) trivial ?_
    exact ev_exit ⟨_, _, rfl, ⟨rfl, Or.inl rfl⟩, ⟨rfl, rfl⟩, Nat.le_refl _, Nat.le_refl _⟩
set_option maxRecDepth 20000 in
theorem xL_take_2 (F : Nat) (S : S_X6) (f : Nat → Int64) (v1 : Int32) (v2 : Int32) (h : s_X4_take_e F S.1 v1 v2 = some 2) : ev_AH yL_take mm_L_take hh_L_take [.ref 0, .int v1, .int v2, .ref 140] (WL S f) (fun r w => r = some (.int 2) ∧ w = WL S f) := by
  refine ev_catchH (cl := 1) (as1 := [.int v1, .int v2]) (rest := [.int 0, .ref 140]) (pci := 5) (idx := 17) (i := 4) (npc := 19) (Li := [some (.ref 0), some (.int v1), some (.int v2), some (.ref 140), none]) ok_L_take (by decide +kernel) rfl rfl (Nat.le_of_ble_eq_true rfl) rfl ⟨rfl, rfl⟩ rfl ?_ (th_X4_take_2 F S.1 v1 v2 h) cv_X4_take (ev_has_in (k := 674) (by decide +kernel)) (by decide) rfl (WL4 S f) rfl (Nat.le_of_ble_eq_true rfl) ⟨by decide, by decide⟩ (by decide) [⟨0, 10, 13, 21⟩] ⟨0, 10, 17, 15⟩ [] rfl rfl rfl (fun z hz => by
    simp only [List.mem_cons, List.not_mem_nil, or_false] at hz
    subst hz
    exact ⟨2, by decide, by decide, rfl⟩) (by decide) (Or.inr ⟨by decide, rfl⟩) ?_
  · refine ev_run (cs := []) (pc' := 5) (L' := [some (.ref 0), some (.int v1), some (.int v2), some (.ref 140), none]) (st' := [.int v2, .int v1, .ref 0, .int 0, .ref 140]) (w' := WL S f) [] 5 (by with_unfolding_all rfl) trivial ?_
    exact ev_exit ⟨rfl, rfl, rfl, rfl, rfl, rfl⟩
  · refine ev_run (cs := []) (pc' := 20) (L' := [none, none, none, none, none]) (st' := [.int 2]) (w' := WL S f) [] 1 (by with_unfolding_all rfl) trivial ?_
    exact ev_exit ⟨_, _, rfl, ⟨rfl, Or.inl rfl⟩, ⟨rfl, rfl⟩, Nat.le_refl _, Nat.le_refl _⟩
def hh_L_put : List (Nat × Nat × Nat × Nat) := [(0, 12, 15, 21), (0, 12, 19, 15)]
set_option maxRecDepth 20000 in
theorem rL_put (F : Nat) (S S' : S_X6) (f : Nat → Int64) (v1 : Int32) (v2 : Int32) (v3 : Int32) (z : Int32) (h : s_X4_put_6 F S v1 v2 v3 = some (z, S')) : ev_AH yL_put mm_L_put hh_L_put [.ref 0, .int v1, .int v2, .int v3, .ref 140] (WL S f) (fun r w => r = some (.int 0) ∧ w = WL S' (vp_updL f (0 : Int32).toNatClampNeg z.toInt64)) := by
  refine ev_startH ok_L_put (by decide +kernel) rfl rfl (Nat.le_of_ble_eq_true rfl) rfl ⟨rfl, rfl⟩ ?_
  refine ev_run (cs := []) (pc' := 7) (L' := [some (.ref 0), some (.int v1), some (.int v2), some (.int v3), some (.ref 140), none]) (st' := [.int v3, .int v2, .int v1, .ref 0, .int 0, .ref 140]) (w' := WL S f) [] 6 (by with_unfolding_all rfl) trivial ?_
  refine ev_callVp (as1 := [.int v1, .int v2, .int v3]) (rest := [.int 0, .ref 140]) (t_X4_put_6 F S v1 v2 v3 (z, S') h) rfl rfl cv_X4_put ml_L_23 rfl rfl rfl (Nat.le_of_ble_eq_true rfl) ⟨Nat.le_of_ble_eq_true rfl, Nat.le_of_ble_eq_true rfl⟩ ⟨Nat.le_refl _, Nat.le_refl _⟩ ?_ ?_
  · rintro r w ⟨rfl, rfl⟩; rw [W6_len, W6_len]
  rintro r w ⟨rfl, rfl⟩
  refine ev_nx (pc' := 10) (st' := [.int z, .int 0, .ref 140]) (w' := WL S' f) rfl rfl rfl rfl rfl ?_
  refine ev_run (cs := [vp_in 0 1]) (pc' := 24) (L' := [some (.ref 0), some (.int v1), some (.int v2), some (.int v3), some (.ref 140), none]) (st' := [.int 0]) (w' := WL S' (vp_updL f (0 : Int32).toNatClampNeg z.toInt64)) [] 4 (by with_unfolding_all rfl) (by show ¬ _; decide) ?_
  exact ev_exit ⟨_, _, rfl, ⟨rfl, Or.inl rfl⟩, ⟨rfl, rfl⟩, Nat.le_refl _, Nat.le_refl _⟩
set_option maxRecDepth 20000 in
theorem xL_put_1 (F : Nat) (S : S_X6) (f : Nat → Int64) (v1 : Int32) (v2 : Int32) (v3 : Int32) (h : s_X4_put_e F S.1 v1 v2 v3 = some 1) : ev_AH yL_put mm_L_put hh_L_put [.ref 0, .int v1, .int v2, .int v3, .ref 140] (WL S f) (fun r w => r = some (.int 1) ∧ w = WL S f) := by
  refine ev_catchH (cl := 2) (as1 := [.int v1, .int v2, .int v3]) (rest := [.int 0, .ref 140]) (pci := 7) (idx := 23) (i := 5) (npc := 17) (Li := [some (.ref 0), some (.int v1), some (.int v2), some (.int v3), some (.ref 140), none]) ok_L_put (by decide +kernel) rfl rfl (Nat.le_of_ble_eq_true rfl) rfl ⟨rfl, rfl⟩ rfl ?_ (th_X4_put_1 F S.1 v1 v2 v3 h) cv_X4_put (ev_has_in (k := 717) (by decide +kernel)) (by decide) rfl (WL4 S f) rfl (Nat.le_of_ble_eq_true rfl) ⟨by decide, by decide⟩ (by decide) [] ⟨0, 12, 15, 21⟩ [⟨0, 12, 19, 15⟩] rfl rfl rfl (fun z hz => absurd hz List.not_mem_nil) (by decide) (Or.inr ⟨by decide, rfl⟩) ?_
  · refine ev_run (cs := []) (pc' := 7) (L' := [some (.ref 0), some (.int v1), some (.int v2), some (.int v3), some (.ref 140), none]) (st' := [.int v3, .int v2, .int v1, .ref 0, .int 0, .ref 140]) (w' := WL S f) [] 6 (by with_unfolding_all rfl) trivial ?_
    exact ev_exit ⟨rfl, rfl, rfl, rfl, rfl, rfl⟩
  · refine ev_run (cs := []) (pc' := 18) (L' := [none, none, none, none, none, none]) (st' := [.int 1]) (w' := WL S f) [] 1 (by with_unfolding_all rfl) trivial ?_
    exact ev_exit ⟨_, _, rfl, ⟨rfl, Or.inl rfl⟩, ⟨rfl, rfl⟩, Nat.le_refl _, Nat.le_refl _⟩
set_option maxRecDepth 20000 in
theorem xL_put_2 (F : Nat) (S : S_X6) (f : Nat → Int64) (v1 : Int32) (v2 : Int32) (v3 : Int32) (h : s_X4_put_e F S.1 v1 v2 v3 = some 2) : ev_AH yL_put mm_L_put hh_L_put [.ref 0, .int v1, .int v2, .int v3, .ref 140] (WL S f) (fun r w => r = some (.int 2) ∧ w = WL S f) := by
  refine ev_catchH (cl := 1) (as1 := [.int v1, .int v2, .int v3]) (rest := [.int 0, .ref 140]) (pci := 7) (idx := 23) (i := 5) (npc := 21) (Li := [some (.ref 0), some (.int v1), some (.int v2), some (.int v3), some (.ref 140), none]) ok_L_put (by decide +kernel) rfl rfl (Nat.le_of_ble_eq_true rfl) rfl ⟨rfl, rfl⟩ rfl ?_ (th_X4_put_2 F S.1 v1 v2 v3 h) cv_X4_put (ev_has_in (k := 717) (by decide +kernel)) (by decide) rfl (WL4 S f) rfl (Nat.le_of_ble_eq_true rfl) ⟨by decide, by decide⟩ (by decide) [⟨0, 12, 15, 21⟩] ⟨0, 12, 19, 15⟩ [] rfl rfl rfl (fun z hz => by
    simp only [List.mem_cons, List.not_mem_nil, or_false] at hz
    subst hz
    exact ⟨2, by decide, by decide, rfl⟩) (by decide) (Or.inr ⟨by decide, rfl⟩) ?_
  · refine ev_run (cs := []) (pc' := 7) (L' := [some (.ref 0), some (.int v1), some (.int v2), some (.int v3), some (.ref 140), none]) (st' := [.int v3, .int v2, .int v1, .ref 0, .int 0, .ref 140]) (w' := WL S f) [] 6 (by with_unfolding_all rfl) trivial ?_
    exact ev_exit ⟨rfl, rfl, rfl, rfl, rfl, rfl⟩
  · refine ev_run (cs := []) (pc' := 22) (L' := [none, none, none, none, none, none]) (st' := [.int 2]) (w' := WL S f) [] 1 (by with_unfolding_all rfl) trivial ?_
    exact ev_exit ⟨_, _, rfl, ⟨rfl, Or.inl rfl⟩, ⟨rfl, rfl⟩, Nat.le_refl _, Nat.le_refl _⟩
def hh_L_slander : List (Nat × Nat × Nat × Nat) := [(0, 10, 13, 21), (0, 10, 17, 13), (0, 10, 21, 15)]
set_option maxRecDepth 20000 in
theorem rL_slander (F : Nat) (S S' : S_X6) (f : Nat → Int64) (v1 : Int32) (v2 : Int32) (z : Int32) (h : s_X4_slander_6 F S v1 v2 = some (z, S')) : ev_AH yL_slander mm_L_slander hh_L_slander [.ref 0, .int v1, .int v2, .ref 140] (WL S f) (fun r w => r = some (.int 0) ∧ w = WL S' (vp_updL f (0 : Int32).toNatClampNeg z.toInt64)) := by
  refine ev_startH ok_L_slander (by decide +kernel) rfl rfl (Nat.le_of_ble_eq_true rfl) rfl ⟨rfl, rfl⟩ ?_
  refine ev_run (cs := []) (pc' := 5) (L' := [some (.ref 0), some (.int v1), some (.int v2), some (.ref 140), none]) (st' := [.int v2, .int v1, .ref 0, .int 0, .ref 140]) (w' := WL S f) [] 5 (by with_unfolding_all rfl) trivial ?_
  refine ev_callVp (as1 := [.int v1, .int v2]) (rest := [.int 0, .ref 140]) (t_X4_slander_6 F S v1 v2 (z, S') h) rfl rfl cv_X4_slander ml_L_27 rfl rfl rfl (Nat.le_of_ble_eq_true rfl) ⟨Nat.le_of_ble_eq_true rfl, Nat.le_of_ble_eq_true rfl⟩ ⟨Nat.le_refl _, Nat.le_refl _⟩ ?_ ?_
  · rintro r w ⟨rfl, rfl⟩; rw [W6_len, W6_len]
  rintro r w ⟨rfl, rfl⟩
  refine ev_nx (pc' := 8) (st' := [.int z, .int 0, .ref 140]) (w' := WL S' f) rfl rfl rfl rfl rfl ?_
  refine ev_run (cs := [vp_in 0 1]) (pc' := 26) (L' := [some (.ref 0), some (.int v1), some (.int v2), some (.ref 140), none]) (st' := [.int 0]) (w' := WL S' (vp_updL f (0 : Int32).toNatClampNeg z.toInt64)) [] 4 (by with_unfolding_all rfl) (by show ¬ _; decide) ?_
  exact ev_exit ⟨_, _, rfl, ⟨rfl, Or.inl rfl⟩, ⟨rfl, rfl⟩, Nat.le_refl _, Nat.le_refl _⟩
set_option maxRecDepth 20000 in
theorem xL_slander_1 (F : Nat) (S : S_X6) (f : Nat → Int64) (v1 : Int32) (v2 : Int32) (h : s_X4_slander_e F S.1 v1 v2 = some 1) : ev_AH yL_slander mm_L_slander hh_L_slander [.ref 0, .int v1, .int v2, .ref 140] (WL S f) (fun r w => r = some (.int 1) ∧ w = WL S f) := by
  refine ev_catchH (cl := 2) (as1 := [.int v1, .int v2]) (rest := [.int 0, .ref 140]) (pci := 5) (idx := 27) (i := 4) (npc := 15) (Li := [some (.ref 0), some (.int v1), some (.int v2), some (.ref 140), none]) ok_L_slander (by decide +kernel) rfl rfl (Nat.le_of_ble_eq_true rfl) rfl ⟨rfl, rfl⟩ rfl ?_ (th_X4_slander_1 F S.1 v1 v2 h) cv_X4_slander (ev_has_in (k := 729) (by decide +kernel)) (by decide) rfl (WL4 S f) rfl (Nat.le_of_ble_eq_true rfl) ⟨by decide, by decide⟩ (by decide) [] ⟨0, 10, 13, 21⟩ [⟨0, 10, 17, 13⟩, ⟨0, 10, 21, 15⟩] rfl rfl rfl (fun z hz => absurd hz List.not_mem_nil) (by decide) (Or.inr ⟨by decide, rfl⟩) ?_
  · refine ev_run (cs := []) (pc' := 5) (L' := [some (.ref 0), some (.int v1), some (.int v2), some (.ref 140), none]) (st' := [.int v2, .int v1, .ref 0, .int 0, .ref 140]) (w' := WL S f) [] 5 (by with_unfolding_all rfl) trivial ?_
    exact ev_exit ⟨rfl, rfl, rfl, rfl, rfl, rfl⟩
  · refine ev_run (cs := []) (pc' := 16) (L' := [none, none, none, none, none]) (st' := [.int 1]) (w' := WL S f) [] 1 (by with_unfolding_all rfl) trivial ?_
    exact ev_exit ⟨_, _, rfl, ⟨rfl, Or.inl rfl⟩, ⟨rfl, rfl⟩, Nat.le_refl _, Nat.le_refl _⟩
set_option maxRecDepth 20000 in
theorem xL_slander_2 (F : Nat) (S : S_X6) (f : Nat → Int64) (v1 : Int32) (v2 : Int32) (h : s_X4_slander_e F S.1 v1 v2 = some 2) : ev_AH yL_slander mm_L_slander hh_L_slander [.ref 0, .int v1, .int v2, .ref 140] (WL S f) (fun r w => r = some (.int 2) ∧ w = WL S f) := by
  refine ev_catchH (cl := 0) (as1 := [.int v1, .int v2]) (rest := [.int 0, .ref 140]) (pci := 5) (idx := 27) (i := 4) (npc := 19) (Li := [some (.ref 0), some (.int v1), some (.int v2), some (.ref 140), none]) ok_L_slander (by decide +kernel) rfl rfl (Nat.le_of_ble_eq_true rfl) rfl ⟨rfl, rfl⟩ rfl ?_ (th_X4_slander_2 F S.1 v1 v2 h) cv_X4_slander (ev_has_in (k := 729) (by decide +kernel)) (by decide) rfl (WL4 S f) rfl (Nat.le_of_ble_eq_true rfl) ⟨by decide, by decide⟩ (by decide) [⟨0, 10, 13, 21⟩] ⟨0, 10, 17, 13⟩ [⟨0, 10, 21, 15⟩] rfl rfl rfl (fun z hz => by
    simp only [List.mem_cons, List.not_mem_nil, or_false] at hz
    subst hz
    exact ⟨2, by decide, by decide, rfl⟩) (by decide) (Or.inr ⟨by decide, rfl⟩) ?_
  · refine ev_run (cs := []) (pc' := 5) (L' := [some (.ref 0), some (.int v1), some (.int v2), some (.ref 140), none]) (st' := [.int v2, .int v1, .ref 0, .int 0, .ref 140]) (w' := WL S f) [] 5 (by with_unfolding_all rfl) trivial ?_
    exact ev_exit ⟨rfl, rfl, rfl, rfl, rfl, rfl⟩
  · refine ev_run (cs := []) (pc' := 20) (L' := [none, none, none, none, none]) (st' := [.int 2]) (w' := WL S f) [] 1 (by with_unfolding_all rfl) trivial ?_
    exact ev_exit ⟨_, _, rfl, ⟨rfl, Or.inl rfl⟩, ⟨rfl, rfl⟩, Nat.le_refl _, Nat.le_refl _⟩
set_option maxRecDepth 20000 in
theorem xL_slander_3 (F : Nat) (S : S_X6) (f : Nat → Int64) (v1 : Int32) (v2 : Int32) (h : s_X4_slander_e F S.1 v1 v2 = some 3) : ev_AH yL_slander mm_L_slander hh_L_slander [.ref 0, .int v1, .int v2, .ref 140] (WL S f) (fun r w => r = some (.int 3) ∧ w = WL S f) := by
  refine ev_catchH (cl := 1) (as1 := [.int v1, .int v2]) (rest := [.int 0, .ref 140]) (pci := 5) (idx := 27) (i := 4) (npc := 23) (Li := [some (.ref 0), some (.int v1), some (.int v2), some (.ref 140), none]) ok_L_slander (by decide +kernel) rfl rfl (Nat.le_of_ble_eq_true rfl) rfl ⟨rfl, rfl⟩ rfl ?_ (th_X4_slander_3 F S.1 v1 v2 h) cv_X4_slander (ev_has_in (k := 729) (by decide +kernel)) (by decide) rfl (WL4 S f) rfl (Nat.le_of_ble_eq_true rfl) ⟨by decide, by decide⟩ (by decide) [⟨0, 10, 13, 21⟩, ⟨0, 10, 17, 13⟩] ⟨0, 10, 21, 15⟩ [] rfl rfl rfl (fun z hz => by
    simp only [List.mem_cons, List.not_mem_nil, or_false] at hz
    rcases hz with rfl | rfl
    · exact ⟨2, by decide, by decide, rfl⟩
    · exact ⟨0, by decide, by decide, rfl⟩) (by decide) (Or.inr ⟨by decide, rfl⟩) ?_
  · refine ev_run (cs := []) (pc' := 5) (L' := [some (.ref 0), some (.int v1), some (.int v2), some (.ref 140), none]) (st' := [.int v2, .int v1, .ref 0, .int 0, .ref 140]) (w' := WL S f) [] 5 (by with_unfolding_all rfl) trivial ?_
    exact ev_exit ⟨rfl, rfl, rfl, rfl, rfl, rfl⟩
  · refine ev_run (cs := []) (pc' := 24) (L' := [none, none, none, none, none]) (st' := [.int 3]) (w' := WL S f) [] 1 (by with_unfolding_all rfl) trivial ?_
    exact ev_exit ⟨_, _, rfl, ⟨rfl, Or.inl rfl⟩, ⟨rfl, rfl⟩, Nat.le_refl _, Nat.le_refl _⟩
def hh_L_suspect : List (Nat × Nat × Nat × Nat) := [(0, 9, 12, 21), (0, 9, 15, 15)]
set_option maxRecDepth 20000 in
theorem rL_suspect (F : Nat) (S S' : S_X6) (f : Nat → Int64) (v1 : Int32) (z : Int32) (h : s_X4_suspect_6 F S v1 = some (z, S')) : ev_AH yL_suspect mm_L_suspect hh_L_suspect [.ref 0, .int v1, .ref 140] (WL S f) (fun r w => r = some (.int 0) ∧ w = WL S' (vp_updL f (0 : Int32).toNatClampNeg z.toInt64)) := by
  refine ev_startH ok_L_suspect (by decide +kernel) rfl rfl (Nat.le_of_ble_eq_true rfl) rfl ⟨rfl, rfl⟩ ?_
  refine ev_run (cs := []) (pc' := 4) (L' := [some (.ref 0), some (.int v1), some (.ref 140), none]) (st' := [.int v1, .ref 0, .int 0, .ref 140]) (w' := WL S f) [] 4 (by with_unfolding_all rfl) trivial ?_
  refine ev_callVp (as1 := [.int v1]) (rest := [.int 0, .ref 140]) (t_X4_suspect_6 F S v1 (z, S') h) rfl rfl cv_X4_suspect ml_L_30 rfl rfl rfl (Nat.le_of_ble_eq_true rfl) ⟨Nat.le_of_ble_eq_true rfl, Nat.le_of_ble_eq_true rfl⟩ ⟨Nat.le_refl _, Nat.le_refl _⟩ ?_ ?_
  · rintro r w ⟨rfl, rfl⟩; rw [W6_len, W6_len]
  rintro r w ⟨rfl, rfl⟩
  refine ev_nx (pc' := 7) (st' := [.int z, .int 0, .ref 140]) (w' := WL S' f) rfl rfl rfl rfl rfl ?_
  refine ev_run (cs := [vp_in 0 1]) (pc' := 19) (L' := [some (.ref 0), some (.int v1), some (.ref 140), none]) (st' := [.int 0]) (w' := WL S' (vp_updL f (0 : Int32).toNatClampNeg z.toInt64)) [] 4 (by with_unfolding_all rfl) (by show ¬ _; decide) ?_
  exact ev_exit ⟨_, _, rfl, ⟨rfl, Or.inl rfl⟩, ⟨rfl, rfl⟩, Nat.le_refl _, Nat.le_refl _⟩
set_option maxRecDepth 20000 in
theorem xL_suspect_1 (F : Nat) (S : S_X6) (f : Nat → Int64) (v1 : Int32) (h : s_X4_suspect_e F S.1 v1 = some 1) : ev_AH yL_suspect mm_L_suspect hh_L_suspect [.ref 0, .int v1, .ref 140] (WL S f) (fun r w => r = some (.int 1) ∧ w = WL S f) := by
  refine ev_catchH (cl := 2) (as1 := [.int v1]) (rest := [.int 0, .ref 140]) (pci := 4) (idx := 30) (i := 3) (npc := 13) (Li := [some (.ref 0), some (.int v1), some (.ref 140), none]) ok_L_suspect (by decide +kernel) rfl rfl (Nat.le_of_ble_eq_true rfl) rfl ⟨rfl, rfl⟩ rfl ?_ (th_X4_suspect_1 F S.1 v1 h) cv_X4_suspect (ev_has_in (k := 738) (by decide +kernel)) (by decide) rfl (WL4 S f) rfl (Nat.le_of_ble_eq_true rfl) ⟨by decide, by decide⟩ (by decide) [] ⟨0, 9, 12, 21⟩ [⟨0, 9, 15, 15⟩] rfl rfl rfl (fun z hz => absurd hz List.not_mem_nil) (by decide) (Or.inl ⟨3, by decide, rfl, rfl⟩) ?_
  · refine ev_run (cs := []) (pc' := 4) (L' := [some (.ref 0), some (.int v1), some (.ref 140), none]) (st' := [.int v1, .ref 0, .int 0, .ref 140]) (w' := WL S f) [] 4 (by with_unfolding_all rfl) trivial ?_
    exact ev_exit ⟨rfl, rfl, rfl, rfl, rfl, rfl⟩
  · refine ev_run (cs := []) (pc' := 14) (L' := [none, none, none, none]) (st' := [.int 1]) (w' := WL S f) [] 1 (by with_unfolding_all rfl) trivial ?_
    exact ev_exit ⟨_, _, rfl, ⟨rfl, Or.inl rfl⟩, ⟨rfl, rfl⟩, Nat.le_refl _, Nat.le_refl _⟩
set_option maxRecDepth 20000 in
theorem xL_suspect_2 (F : Nat) (S : S_X6) (f : Nat → Int64) (v1 : Int32) (h : s_X4_suspect_e F S.1 v1 = some 2) : ev_AH yL_suspect mm_L_suspect hh_L_suspect [.ref 0, .int v1, .ref 140] (WL S f) (fun r w => r = some (.int 2) ∧ w = WL S f) := by
  refine ev_catchH (cl := 1) (as1 := [.int v1]) (rest := [.int 0, .ref 140]) (pci := 4) (idx := 30) (i := 3) (npc := 16) (Li := [some (.ref 0), some (.int v1), some (.ref 140), none]) ok_L_suspect (by decide +kernel) rfl rfl (Nat.le_of_ble_eq_true rfl) rfl ⟨rfl, rfl⟩ rfl ?_ (th_X4_suspect_2 F S.1 v1 h) cv_X4_suspect (ev_has_in (k := 738) (by decide +kernel)) (by decide) rfl (WL4 S f) rfl (Nat.le_of_ble_eq_true rfl) ⟨by decide, by decide⟩ (by decide) [⟨0, 9, 12, 21⟩] ⟨0, 9, 15, 15⟩ [] rfl rfl rfl (fun z hz => by
    simp only [List.mem_cons, List.not_mem_nil, or_false] at hz
    subst hz
    exact ⟨2, by decide, by decide, rfl⟩) (by decide) (Or.inl ⟨3, by decide, rfl, rfl⟩) ?_
  · refine ev_run (cs := []) (pc' := 4) (L' := [some (.ref 0), some (.int v1), some (.ref 140), none]) (st' := [.int v1, .ref 0, .int 0, .ref 140]) (w' := WL S f) [] 4 (by with_unfolding_all rfl) trivial ?_
    exact ev_exit ⟨rfl, rfl, rfl, rfl, rfl, rfl⟩
  · refine ev_run (cs := []) (pc' := 17) (L' := [none, none, none, none]) (st' := [.int 2]) (w' := WL S f) [] 1 (by with_unfolding_all rfl) trivial ?_
    exact ev_exit ⟨_, _, rfl, ⟨rfl, Or.inl rfl⟩, ⟨rfl, rfl⟩, Nat.le_refl _, Nat.le_refl _⟩
def hh_L_set : List (Nat × Nat × Nat × Nat) := [(0, 10, 13, 21), (0, 10, 17, 13)]
set_option maxRecDepth 20000 in
theorem rL_set (F : Nat) (S S' : S_X6) (f : Nat → Int64) (v1 : Int32) (v2 : Int32) (z : Int32) (h : s_X4_set_6 F S v1 v2 = some (z, S')) : ev_AH yL_set mm_L_set hh_L_set [.ref 0, .int v1, .int v2, .ref 140] (WL S f) (fun r w => r = some (.int 0) ∧ w = WL S' (vp_updL f (0 : Int32).toNatClampNeg z.toInt64)) := by
  refine ev_startH ok_L_set (by decide +kernel) rfl rfl (Nat.le_of_ble_eq_true rfl) rfl ⟨rfl, rfl⟩ ?_
  refine ev_run (cs := []) (pc' := 5) (L' := [some (.ref 0), some (.int v1), some (.int v2), some (.ref 140), none]) (st' := [.int v2, .int v1, .ref 0, .int 0, .ref 140]) (w' := WL S f) [] 5 (by with_unfolding_all rfl) trivial ?_
  refine ev_callVp (as1 := [.int v1, .int v2]) (rest := [.int 0, .ref 140]) (t_X4_set_6 F S v1 v2 (z, S') h) rfl rfl cv_X4_set ml_L_33 rfl rfl rfl (Nat.le_of_ble_eq_true rfl) ⟨Nat.le_of_ble_eq_true rfl, Nat.le_of_ble_eq_true rfl⟩ ⟨Nat.le_refl _, Nat.le_refl _⟩ ?_ ?_
  · rintro r w ⟨rfl, rfl⟩; rw [W6_len, W6_len]
  rintro r w ⟨rfl, rfl⟩
  refine ev_nx (pc' := 8) (st' := [.int z, .int 0, .ref 140]) (w' := WL S' f) rfl rfl rfl rfl rfl ?_
  refine ev_run (cs := [vp_in 0 1]) (pc' := 22) (L' := [some (.ref 0), some (.int v1), some (.int v2), some (.ref 140), none]) (st' := [.int 0]) (w' := WL S' (vp_updL f (0 : Int32).toNatClampNeg z.toInt64)) [] 4 (by with_unfolding_all rfl) (by show ¬ _; decide) ?_
  exact ev_exit ⟨_, _, rfl, ⟨rfl, Or.inl rfl⟩, ⟨rfl, rfl⟩, Nat.le_refl _, Nat.le_refl _⟩
set_option maxRecDepth 20000 in
theorem xL_set_1 (F : Nat) (S : S_X6) (f : Nat → Int64) (v1 : Int32) (v2 : Int32) (h : s_X4_set_e F S.1 v1 v2 = some 1) : ev_AH yL_set mm_L_set hh_L_set [.ref 0, .int v1, .int v2, .ref 140] (WL S f) (fun r w => r = some (.int 1) ∧ w = WL S f) := by
  refine ev_catchH (cl := 2) (as1 := [.int v1, .int v2]) (rest := [.int 0, .ref 140]) (pci := 5) (idx := 33) (i := 4) (npc := 15) (Li := [some (.ref 0), some (.int v1), some (.int v2), some (.ref 140), none]) ok_L_set (by decide +kernel) rfl rfl (Nat.le_of_ble_eq_true rfl) rfl ⟨rfl, rfl⟩ rfl ?_ (th_X4_set_1 F S.1 v1 v2 h) cv_X4_set (ev_has_in (k := 747) (by decide +kernel)) (by decide) rfl (WL4 S f) rfl (Nat.le_of_ble_eq_true rfl) ⟨by decide, by decide⟩ (by decide) [] ⟨0, 10, 13, 21⟩ [⟨0, 10, 17, 13⟩] rfl rfl rfl (fun z hz => absurd hz List.not_mem_nil) (by decide) (Or.inr ⟨by decide, rfl⟩) ?_
  · refine ev_run (cs := []) (pc' := 5) (L' := [some (.ref 0), some (.int v1), some (.int v2), some (.ref 140), none]) (st' := [.int v2, .int v1, .ref 0, .int 0, .ref 140]) (w' := WL S f) [] 5 (by with_unfolding_all rfl) trivial ?_
    exact ev_exit ⟨rfl, rfl, rfl, rfl, rfl, rfl⟩
  · refine ev_run (cs := []) (pc' := 16) (L' := [none, none, none, none, none]) (st' := [.int 1]) (w' := WL S f) [] 1 (by with_unfolding_all rfl) trivial ?_
    exact ev_exit ⟨_, _, rfl, ⟨rfl, Or.inl rfl⟩, ⟨rfl, rfl⟩, Nat.le_refl _, Nat.le_refl _⟩
set_option maxRecDepth 20000 in
theorem xL_set_2 (F : Nat) (S : S_X6) (f : Nat → Int64) (v1 : Int32) (v2 : Int32) (h : s_X4_set_e F S.1 v1 v2 = some 2) : ev_AH yL_set mm_L_set hh_L_set [.ref 0, .int v1, .int v2, .ref 140] (WL S f) (fun r w => r = some (.int 2) ∧ w = WL S f) := by
  refine ev_catchH (cl := 0) (as1 := [.int v1, .int v2]) (rest := [.int 0, .ref 140]) (pci := 5) (idx := 33) (i := 4) (npc := 19) (Li := [some (.ref 0), some (.int v1), some (.int v2), some (.ref 140), none]) ok_L_set (by decide +kernel) rfl rfl (Nat.le_of_ble_eq_true rfl) rfl ⟨rfl, rfl⟩ rfl ?_ (th_X4_set_2 F S.1 v1 v2 h) cv_X4_set (ev_has_in (k := 747) (by decide +kernel)) (by decide) rfl (WL4 S f) rfl (Nat.le_of_ble_eq_true rfl) ⟨by decide, by decide⟩ (by decide) [⟨0, 10, 13, 21⟩] ⟨0, 10, 17, 13⟩ [] rfl rfl rfl (fun z hz => by
    simp only [List.mem_cons, List.not_mem_nil, or_false] at hz
    subst hz
    exact ⟨2, by decide, by decide, rfl⟩) (by decide) (Or.inr ⟨by decide, rfl⟩) ?_
  · refine ev_run (cs := []) (pc' := 5) (L' := [some (.ref 0), some (.int v1), some (.int v2), some (.ref 140), none]) (st' := [.int v2, .int v1, .ref 0, .int 0, .ref 140]) (w' := WL S f) [] 5 (by with_unfolding_all rfl) trivial ?_
    exact ev_exit ⟨rfl, rfl, rfl, rfl, rfl, rfl⟩
  · refine ev_run (cs := []) (pc' := 20) (L' := [none, none, none, none, none]) (st' := [.int 2]) (w' := WL S f) [] 1 (by with_unfolding_all rfl) trivial ?_
    exact ev_exit ⟨_, _, rfl, ⟨rfl, Or.inl rfl⟩, ⟨rfl, rfl⟩, Nat.le_refl _, Nat.le_refl _⟩
def hh_L_pass : List (Nat × Nat × Nat × Nat) := [(0, 9, 12, 13), (0, 9, 15, 15)]
set_option maxRecDepth 20000 in
theorem rL_pass (F : Nat) (S S' : S_X6) (f : Nat → Int64) (v1 : Int32) (z : Int32) (h : s_X4_pass_6 F S v1 = some (z, S')) : ev_AH yL_pass mm_L_pass hh_L_pass [.ref 0, .int v1, .ref 140] (WL S f) (fun r w => r = some (.int 0) ∧ w = WL S' (vp_updL f (0 : Int32).toNatClampNeg z.toInt64)) := by
  refine ev_startH ok_L_pass (by decide +kernel) rfl rfl (Nat.le_of_ble_eq_true rfl) rfl ⟨rfl, rfl⟩ ?_
  refine ev_run (cs := []) (pc' := 4) (L' := [some (.ref 0), some (.int v1), some (.ref 140), none]) (st' := [.int v1, .ref 0, .int 0, .ref 140]) (w' := WL S f) [] 4 (by with_unfolding_all rfl) trivial ?_
  refine ev_callVp (as1 := [.int v1]) (rest := [.int 0, .ref 140]) (t_X4_pass_6 F S v1 (z, S') h) rfl rfl cv_X4_pass ml_L_36 rfl rfl rfl (Nat.le_of_ble_eq_true rfl) ⟨Nat.le_of_ble_eq_true rfl, Nat.le_of_ble_eq_true rfl⟩ ⟨Nat.le_refl _, Nat.le_refl _⟩ ?_ ?_
  · rintro r w ⟨rfl, rfl⟩; rw [W6_len, W6_len]
  rintro r w ⟨rfl, rfl⟩
  refine ev_nx (pc' := 7) (st' := [.int z, .int 0, .ref 140]) (w' := WL S' f) rfl rfl rfl rfl rfl ?_
  refine ev_run (cs := [vp_in 0 1]) (pc' := 19) (L' := [some (.ref 0), some (.int v1), some (.ref 140), none]) (st' := [.int 0]) (w' := WL S' (vp_updL f (0 : Int32).toNatClampNeg z.toInt64)) [] 4 (by with_unfolding_all rfl) (by show ¬ _; decide) ?_
  exact ev_exit ⟨_, _, rfl, ⟨rfl, Or.inl rfl⟩, ⟨rfl, rfl⟩, Nat.le_refl _, Nat.le_refl _⟩
set_option maxRecDepth 20000 in
theorem xL_pass_1 (F : Nat) (S : S_X6) (f : Nat → Int64) (v1 : Int32) (h : s_X4_pass_e F S.1 v1 = some 1) : ev_AH yL_pass mm_L_pass hh_L_pass [.ref 0, .int v1, .ref 140] (WL S f) (fun r w => r = some (.int 1) ∧ w = WL S f) := by
  refine ev_catchH (cl := 0) (as1 := [.int v1]) (rest := [.int 0, .ref 140]) (pci := 4) (idx := 36) (i := 3) (npc := 13) (Li := [some (.ref 0), some (.int v1), some (.ref 140), none]) ok_L_pass (by decide +kernel) rfl rfl (Nat.le_of_ble_eq_true rfl) rfl ⟨rfl, rfl⟩ rfl ?_ (th_X4_pass_1 F S.1 v1 h) cv_X4_pass (ev_has_in (k := 762) (by decide +kernel)) (by decide) rfl (WL4 S f) rfl (Nat.le_of_ble_eq_true rfl) ⟨by decide, by decide⟩ (by decide) [] ⟨0, 9, 12, 13⟩ [⟨0, 9, 15, 15⟩] rfl rfl rfl (fun z hz => absurd hz List.not_mem_nil) (by decide) (Or.inl ⟨3, by decide, rfl, rfl⟩) ?_
  · refine ev_run (cs := []) (pc' := 4) (L' := [some (.ref 0), some (.int v1), some (.ref 140), none]) (st' := [.int v1, .ref 0, .int 0, .ref 140]) (w' := WL S f) [] 4 (by with_unfolding_all rfl) trivial ?_
    exact ev_exit ⟨rfl, rfl, rfl, rfl, rfl, rfl⟩
  · refine ev_run (cs := []) (pc' := 14) (L' := [none, none, none, none]) (st' := [.int 1]) (w' := WL S f) [] 1 (by with_unfolding_all rfl) trivial ?_
    exact ev_exit ⟨_, _, rfl, ⟨rfl, Or.inl rfl⟩, ⟨rfl, rfl⟩, Nat.le_refl _, Nat.le_refl _⟩
set_option maxRecDepth 20000 in
theorem xL_pass_2 (F : Nat) (S : S_X6) (f : Nat → Int64) (v1 : Int32) (h : s_X4_pass_e F S.1 v1 = some 2) : ev_AH yL_pass mm_L_pass hh_L_pass [.ref 0, .int v1, .ref 140] (WL S f) (fun r w => r = some (.int 2) ∧ w = WL S f) := by
  refine ev_catchH (cl := 1) (as1 := [.int v1]) (rest := [.int 0, .ref 140]) (pci := 4) (idx := 36) (i := 3) (npc := 16) (Li := [some (.ref 0), some (.int v1), some (.ref 140), none]) ok_L_pass (by decide +kernel) rfl rfl (Nat.le_of_ble_eq_true rfl) rfl ⟨rfl, rfl⟩ rfl ?_ (th_X4_pass_2 F S.1 v1 h) cv_X4_pass (ev_has_in (k := 762) (by decide +kernel)) (by decide) rfl (WL4 S f) rfl (Nat.le_of_ble_eq_true rfl) ⟨by decide, by decide⟩ (by decide) [⟨0, 9, 12, 13⟩] ⟨0, 9, 15, 15⟩ [] rfl rfl rfl (fun z hz => by
    simp only [List.mem_cons, List.not_mem_nil, or_false] at hz
    subst hz
    exact ⟨0, by decide, by decide, rfl⟩) (by decide) (Or.inl ⟨3, by decide, rfl, rfl⟩) ?_
  · refine ev_run (cs := []) (pc' := 4) (L' := [some (.ref 0), some (.int v1), some (.ref 140), none]) (st' := [.int v1, .ref 0, .int 0, .ref 140]) (w' := WL S f) [] 4 (by with_unfolding_all rfl) trivial ?_
    exact ev_exit ⟨rfl, rfl, rfl, rfl, rfl, rfl⟩
  · refine ev_run (cs := []) (pc' := 17) (L' := [none, none, none, none]) (st' := [.int 2]) (w' := WL S f) [] 1 (by with_unfolding_all rfl) trivial ?_
    exact ev_exit ⟨_, _, rfl, ⟨rfl, Or.inl rfl⟩, ⟨rfl, rfl⟩, Nat.le_refl _, Nat.le_refl _⟩
def hh_L_append : List (Nat × Nat × Nat × Nat) := [(0, 9, 12, 13), (0, 9, 15, 15)]
set_option maxRecDepth 20000 in
theorem rL_append (F : Nat) (S S' : S_X6) (f : Nat → Int64) (v1 : Int32) (z : Int32) (h : on4 S (s_X4_append F S.1 v1) = some (z, S')) : ev_AH yL_append mm_L_append hh_L_append [.ref 0, .int v1, .ref 140] (WL S f) (fun r w => r = some (.int 0) ∧ w = WL S' (vp_updL f (0 : Int32).toNatClampNeg z.toInt64)) := by
  obtain ⟨u, h4, rfl⟩ := on4_inv h
  refine ev_startH ok_L_append (by decide +kernel) rfl rfl (Nat.le_of_ble_eq_true rfl) rfl ⟨rfl, rfl⟩ ?_
  refine ev_run (cs := []) (pc' := 4) (L' := [some (.ref 0), some (.int v1), some (.ref 140), none]) (st' := [.int v1, .ref 0, .int 0, .ref 140]) (w' := WL S f) [] 4 (by with_unfolding_all rfl) trivial ?_
  refine ev_callVp (as1 := [.int v1]) (rest := [.int 0, .ref 140]) (t_X4_append F S.1 v1 (z, u) h4) rfl (WL4 S f) cv_X4_append ml_L_39 rfl rfl rfl (Nat.le_of_ble_eq_true rfl) ⟨Nat.le_of_ble_eq_true rfl, Nat.le_of_ble_eq_true rfl⟩ ⟨Nat.le_refl _, Nat.le_refl _⟩ ?_ ?_
  · rintro r w ⟨rfl, rfl⟩; rfl
  rintro r w ⟨rfl, rfl⟩
  refine ev_nx (pc' := 7) (st' := [.int z, .int 0, .ref 140]) (w' := WL (m_X6_g u S) f) rfl rfl (WL4g S u f) rfl rfl ?_
  refine ev_run (cs := [vp_in 0 1]) (pc' := 19) (L' := [some (.ref 0), some (.int v1), some (.ref 140), none]) (st' := [.int 0]) (w' := WL (m_X6_g u S) (vp_updL f (0 : Int32).toNatClampNeg z.toInt64)) [] 4 (by with_unfolding_all rfl) (by show ¬ _; decide) ?_
  exact ev_exit ⟨_, _, rfl, ⟨rfl, Or.inl rfl⟩, ⟨rfl, rfl⟩, Nat.le_refl _, Nat.le_refl _⟩
set_option maxRecDepth 20000 in
theorem xL_append_1 (F : Nat) (S : S_X6) (f : Nat → Int64) (v1 : Int32) (h : s_X4_append_e F S.1 v1 = some 1) : ev_AH yL_append mm_L_append hh_L_append [.ref 0, .int v1, .ref 140] (WL S f) (fun r w => r = some (.int 1) ∧ w = WL S f) := by
  refine ev_catchH (cl := 0) (as1 := [.int v1]) (rest := [.int 0, .ref 140]) (pci := 4) (idx := 39) (i := 3) (npc := 13) (Li := [some (.ref 0), some (.int v1), some (.ref 140), none]) ok_L_append (by decide +kernel) rfl rfl (Nat.le_of_ble_eq_true rfl) rfl ⟨rfl, rfl⟩ rfl ?_ (th_X4_append_1 F S.1 v1 h) cv_X4_append (ev_has_in (k := 771) (by decide +kernel)) (by decide) rfl (WL4 S f) rfl (Nat.le_of_ble_eq_true rfl) ⟨by decide, by decide⟩ (by decide) [] ⟨0, 9, 12, 13⟩ [⟨0, 9, 15, 15⟩] rfl rfl rfl (fun z hz => absurd hz List.not_mem_nil) (by decide) (Or.inl ⟨3, by decide, rfl, rfl⟩) ?_
  · refine ev_run (cs := []) (pc' := 4) (L' := [some (.ref 0), some (.int v1), some (.ref 140), none]) (st' := [.int v1, .ref 0, .int 0, .ref 140]) (w' := WL S f) [] 4 (by with_unfolding_all rfl) trivial ?_
    exact ev_exit ⟨rfl, rfl, rfl, rfl, rfl, rfl⟩
  · refine ev_run (cs := []) (pc' := 14) (L' := [none, none, none, none]) (st' := [.int 1]) (w' := WL S f) [] 1 (by with_unfolding_all rfl) trivial ?_
    exact ev_exit ⟨_, _, rfl, ⟨rfl, Or.inl rfl⟩, ⟨rfl, rfl⟩, Nat.le_refl _, Nat.le_refl _⟩
set_option maxRecDepth 20000 in
theorem xL_append_2 (F : Nat) (S : S_X6) (f : Nat → Int64) (v1 : Int32) (h : s_X4_append_e F S.1 v1 = some 2) : ev_AH yL_append mm_L_append hh_L_append [.ref 0, .int v1, .ref 140] (WL S f) (fun r w => r = some (.int 2) ∧ w = WL S f) := by
  refine ev_catchH (cl := 1) (as1 := [.int v1]) (rest := [.int 0, .ref 140]) (pci := 4) (idx := 39) (i := 3) (npc := 16) (Li := [some (.ref 0), some (.int v1), some (.ref 140), none]) ok_L_append (by decide +kernel) rfl rfl (Nat.le_of_ble_eq_true rfl) rfl ⟨rfl, rfl⟩ rfl ?_ (th_X4_append_2 F S.1 v1 h) cv_X4_append (ev_has_in (k := 771) (by decide +kernel)) (by decide) rfl (WL4 S f) rfl (Nat.le_of_ble_eq_true rfl) ⟨by decide, by decide⟩ (by decide) [⟨0, 9, 12, 13⟩] ⟨0, 9, 15, 15⟩ [] rfl rfl rfl (fun z hz => by
    simp only [List.mem_cons, List.not_mem_nil, or_false] at hz
    subst hz
    exact ⟨0, by decide, by decide, rfl⟩) (by decide) (Or.inl ⟨3, by decide, rfl, rfl⟩) ?_
  · refine ev_run (cs := []) (pc' := 4) (L' := [some (.ref 0), some (.int v1), some (.ref 140), none]) (st' := [.int v1, .ref 0, .int 0, .ref 140]) (w' := WL S f) [] 4 (by with_unfolding_all rfl) trivial ?_
    exact ev_exit ⟨rfl, rfl, rfl, rfl, rfl, rfl⟩
  · refine ev_run (cs := []) (pc' := 17) (L' := [none, none, none, none]) (st' := [.int 2]) (w' := WL S f) [] 1 (by with_unfolding_all rfl) trivial ?_
    exact ev_exit ⟨_, _, rfl, ⟨rfl, Or.inl rfl⟩, ⟨rfl, rfl⟩, Nat.le_refl _, Nat.le_refl _⟩
def hh_L_run : List (Nat × Nat × Nat × Nat) := [(0, 8, 11, 13)]
set_option maxRecDepth 20000 in
theorem rL_run (F : Nat) (S S' : S_X6) (f : Nat → Int64)  (z : Int32) (h : s_X4_run_6 F S  = some (z, S')) : ev_AH yL_run mm_L_run hh_L_run [.ref 0, .ref 140] (WL S f) (fun r w => r = some (.int 0) ∧ w = WL S' (vp_updL f (0 : Int32).toNatClampNeg z.toInt64)) := by
  refine ev_startH ok_L_run (by decide +kernel) rfl rfl (Nat.le_of_ble_eq_true rfl) rfl ⟨rfl, rfl⟩ ?_
  refine ev_run (cs := []) (pc' := 3) (L' := [some (.ref 0), some (.ref 140), none]) (st' := [.ref 0, .int 0, .ref 140]) (w' := WL S f) [] 3 (by with_unfolding_all rfl) trivial ?_
  refine ev_callVp (as1 := []) (rest := [.int 0, .ref 140]) (t_X4_run_6 F S  (z, S') h) rfl rfl cv_X4_run ml_L_42 rfl rfl rfl (Nat.le_of_ble_eq_true rfl) ⟨Nat.le_of_ble_eq_true rfl, Nat.le_of_ble_eq_true rfl⟩ ⟨Nat.le_refl _, Nat.le_refl _⟩ ?_ ?_
  · rintro r w ⟨rfl, rfl⟩; rw [W6_len, W6_len]
  rintro r w ⟨rfl, rfl⟩
  refine ev_nx (pc' := 6) (st' := [.int z, .int 0, .ref 140]) (w' := WL S' f) rfl rfl rfl rfl rfl ?_
  refine ev_run (cs := [vp_in 0 1]) (pc' := 15) (L' := [some (.ref 0), some (.ref 140), none]) (st' := [.int 0]) (w' := WL S' (vp_updL f (0 : Int32).toNatClampNeg z.toInt64)) [] 4 (by with_unfolding_all rfl) (by show ¬ _; decide) ?_
  exact ev_exit ⟨_, _, rfl, ⟨rfl, Or.inl rfl⟩, ⟨rfl, rfl⟩, Nat.le_refl _, Nat.le_refl _⟩
set_option maxRecDepth 20000 in
theorem xL_run_1 (F : Nat) (S : S_X6) (f : Nat → Int64)  (h : s_X4_run_e F S.1  = some 1) : ev_AH yL_run mm_L_run hh_L_run [.ref 0, .ref 140] (WL S f) (fun r w => r = some (.int 1) ∧ w = WL S f) := by
  refine ev_catchH (cl := 0) (as1 := []) (rest := [.int 0, .ref 140]) (pci := 3) (idx := 42) (i := 2) (npc := 12) (Li := [some (.ref 0), some (.ref 140), none]) ok_L_run (by decide +kernel) rfl rfl (Nat.le_of_ble_eq_true rfl) rfl ⟨rfl, rfl⟩ rfl ?_ (th_X4_run_1 F S.1  h) cv_X4_run (ev_has_in (k := 780) (by decide +kernel)) (by decide) rfl (WL4 S f) rfl (Nat.le_of_ble_eq_true rfl) ⟨by decide, by decide⟩ (by decide) [] ⟨0, 8, 11, 13⟩ [] rfl rfl rfl (fun z hz => absurd hz List.not_mem_nil) (by decide) (Or.inl ⟨2, by decide, rfl, rfl⟩) ?_
  · refine ev_run (cs := []) (pc' := 3) (L' := [some (.ref 0), some (.ref 140), none]) (st' := [.ref 0, .int 0, .ref 140]) (w' := WL S f) [] 3 (by with_unfolding_all rfl) trivial ?_
    exact ev_exit ⟨rfl, rfl, rfl, rfl, rfl, rfl⟩
  · refine ev_run (cs := []) (pc' := 13) (L' := [none, none, none]) (st' := [.int 1]) (w' := WL S f) [] 1 (by with_unfolding_all rfl) trivial ?_
    exact ev_exit ⟨_, _, rfl, ⟨rfl, Or.inl rfl⟩, ⟨rfl, rfl⟩, Nat.le_refl _, Nat.le_refl _⟩
def hh_L_undo : List (Nat × Nat × Nat × Nat) := [(0, 8, 11, 15)]
set_option maxRecDepth 20000 in
theorem rL_undo (F : Nat) (S S' : S_X6) (f : Nat → Int64)  (z : Int32) (h : s_X4_undo_6 F S  = some (z, S')) : ev_AH yL_undo mm_L_undo hh_L_undo [.ref 0, .ref 140] (WL S f) (fun r w => r = some (.int 0) ∧ w = WL S' (vp_updL f (0 : Int32).toNatClampNeg z.toInt64)) := by
  refine ev_startH ok_L_undo (by decide +kernel) rfl rfl (Nat.le_of_ble_eq_true rfl) rfl ⟨rfl, rfl⟩ ?_
  refine ev_run (cs := []) (pc' := 3) (L' := [some (.ref 0), some (.ref 140), none]) (st' := [.ref 0, .int 0, .ref 140]) (w' := WL S f) [] 3 (by with_unfolding_all rfl) trivial ?_
  refine ev_callVp (as1 := []) (rest := [.int 0, .ref 140]) (t_X4_undo_6 F S  (z, S') h) rfl rfl cv_X4_undo ml_L_46 rfl rfl rfl (Nat.le_of_ble_eq_true rfl) ⟨Nat.le_of_ble_eq_true rfl, Nat.le_of_ble_eq_true rfl⟩ ⟨Nat.le_refl _, Nat.le_refl _⟩ ?_ ?_
  · rintro r w ⟨rfl, rfl⟩; rw [W6_len, W6_len]
  rintro r w ⟨rfl, rfl⟩
  refine ev_nx (pc' := 6) (st' := [.int z, .int 0, .ref 140]) (w' := WL S' f) rfl rfl rfl rfl rfl ?_
  refine ev_run (cs := [vp_in 0 1]) (pc' := 15) (L' := [some (.ref 0), some (.ref 140), none]) (st' := [.int 0]) (w' := WL S' (vp_updL f (0 : Int32).toNatClampNeg z.toInt64)) [] 4 (by with_unfolding_all rfl) (by show ¬ _; decide) ?_
  exact ev_exit ⟨_, _, rfl, ⟨rfl, Or.inl rfl⟩, ⟨rfl, rfl⟩, Nat.le_refl _, Nat.le_refl _⟩
set_option maxRecDepth 20000 in
theorem xL_undo_1 (F : Nat) (S : S_X6) (f : Nat → Int64)  (h : s_X4_undo_e F S.1  = some 1) : ev_AH yL_undo mm_L_undo hh_L_undo [.ref 0, .ref 140] (WL S f) (fun r w => r = some (.int 1) ∧ w = WL S f) := by
  refine ev_catchH (cl := 1) (as1 := []) (rest := [.int 0, .ref 140]) (pci := 3) (idx := 46) (i := 2) (npc := 12) (Li := [some (.ref 0), some (.ref 140), none]) ok_L_undo (by decide +kernel) rfl rfl (Nat.le_of_ble_eq_true rfl) rfl ⟨rfl, rfl⟩ rfl ?_ (th_X4_undo_1 F S.1  h) cv_X4_undo (ev_has_in (k := 812) (by decide +kernel)) (by decide) rfl (WL4 S f) rfl (Nat.le_of_ble_eq_true rfl) ⟨by decide, by decide⟩ (by decide) [] ⟨0, 8, 11, 15⟩ [] rfl rfl rfl (fun z hz => absurd hz List.not_mem_nil) (by decide) (Or.inl ⟨2, by decide, rfl, rfl⟩) ?_
  · refine ev_run (cs := []) (pc' := 3) (L' := [some (.ref 0), some (.ref 140), none]) (st' := [.ref 0, .int 0, .ref 140]) (w' := WL S f) [] 3 (by with_unfolding_all rfl) trivial ?_
    exact ev_exit ⟨rfl, rfl, rfl, rfl, rfl, rfl⟩
  · refine ev_run (cs := []) (pc' := 13) (L' := [none, none, none]) (st' := [.int 1]) (w' := WL S f) [] 1 (by with_unfolding_all rfl) trivial ?_
    exact ev_exit ⟨_, _, rfl, ⟨rfl, Or.inl rfl⟩, ⟨rfl, rfl⟩, Nat.le_refl _, Nat.le_refl _⟩
def hh_L_thing : List (Nat × Nat × Nat × Nat) := [(0, 10, 13, 21), (0, 10, 17, 13)]
set_option maxRecDepth 20000 in
theorem rL_thing (F : Nat) (S S' : S_X6) (f : Nat → Int64) (v1 : Int32) (v2 : Int32) (z : Int32) (h : on0 S (s_X4_thing F S.1 v1 v2) = some (z, S')) : ev_AH yL_thing mm_L_thing hh_L_thing [.ref 0, .int v1, .int v2, .ref 140] (WL S f) (fun r w => r = some (.int 0) ∧ w = WL S' (vp_updL f (0 : Int32).toNatClampNeg z.toInt64)) := by
  obtain ⟨h, rfl⟩ := on0_inv h
  refine ev_startH ok_L_thing (by decide +kernel) rfl rfl (Nat.le_of_ble_eq_true rfl) rfl ⟨rfl, rfl⟩ ?_
  refine ev_run (cs := []) (pc' := 5) (L' := [some (.ref 0), some (.int v1), some (.int v2), some (.ref 140), none]) (st' := [.int v2, .int v1, .ref 0, .int 0, .ref 140]) (w' := WL S' f) [] 5 (by with_unfolding_all rfl) trivial ?_
  refine ev_callVp (as1 := [.int v1, .int v2]) (rest := [.int 0, .ref 140]) (t_X4_thing F S'.1 v1 v2 z h) rfl (WL4 S' f) cv_X4_thing ml_L_49 rfl rfl rfl (Nat.le_of_ble_eq_true rfl) ⟨Nat.le_of_ble_eq_true rfl, Nat.le_of_ble_eq_true rfl⟩ ⟨Nat.le_refl _, Nat.le_refl _⟩ ?_ ?_
  · rintro r w ⟨rfl, rfl⟩; rfl
  rintro r w ⟨rfl, rfl⟩
  refine ev_nx (pc' := 8) (st' := [.int z, .int 0, .ref 140]) (w' := WL S' f) rfl rfl (WL4 S' f).symm rfl rfl ?_
  refine ev_run (cs := [vp_in 0 1]) (pc' := 22) (L' := [some (.ref 0), some (.int v1), some (.int v2), some (.ref 140), none]) (st' := [.int 0]) (w' := WL S' (vp_updL f (0 : Int32).toNatClampNeg z.toInt64)) [] 4 (by with_unfolding_all rfl) (by show ¬ _; decide) ?_
  exact ev_exit ⟨_, _, rfl, ⟨rfl, Or.inl rfl⟩, ⟨rfl, rfl⟩, Nat.le_refl _, Nat.le_refl _⟩
set_option maxRecDepth 20000 in
theorem xL_thing_1 (F : Nat) (S : S_X6) (f : Nat → Int64) (v1 : Int32) (v2 : Int32) (h : s_X4_thing_e F S.1 v1 v2 = some 1) : ev_AH yL_thing mm_L_thing hh_L_thing [.ref 0, .int v1, .int v2, .ref 140] (WL S f) (fun r w => r = some (.int 1) ∧ w = WL S f) := by
  refine ev_catchH (cl := 2) (as1 := [.int v1, .int v2]) (rest := [.int 0, .ref 140]) (pci := 5) (idx := 49) (i := 4) (npc := 15) (Li := [some (.ref 0), some (.int v1), some (.int v2), some (.ref 140), none]) ok_L_thing (by decide +kernel) rfl rfl (Nat.le_of_ble_eq_true rfl) rfl ⟨rfl, rfl⟩ rfl ?_ (th_X4_thing_1 F S.1 v1 v2 h) cv_X4_thing (ev_has_in (k := 820) (by decide +kernel)) (by decide) rfl (WL4 S f) rfl (Nat.le_of_ble_eq_true rfl) ⟨by decide, by decide⟩ (by decide) [] ⟨0, 10, 13, 21⟩ [⟨0, 10, 17, 13⟩] rfl rfl rfl (fun z hz => absurd hz List.not_mem_nil) (by decide) (Or.inr ⟨by decide, rfl⟩) ?_
  · refine ev_run (cs := []) (pc' := 5) (L' := [some (.ref 0), some (.int v1), some (.int v2), some (.ref 140), none]) (st' := [.int v2, .int v1, .ref 0, .int 0, .ref 140]) (w' := WL S f) [] 5 (by with_unfolding_all rfl) trivial ?_
    exact ev_exit ⟨rfl, rfl, rfl, rfl, rfl, rfl⟩
  · refine ev_run (cs := []) (pc' := 16) (L' := [none, none, none, none, none]) (st' := [.int 1]) (w' := WL S f) [] 1 (by with_unfolding_all rfl) trivial ?_
    exact ev_exit ⟨_, _, rfl, ⟨rfl, Or.inl rfl⟩, ⟨rfl, rfl⟩, Nat.le_refl _, Nat.le_refl _⟩
set_option maxRecDepth 20000 in
theorem xL_thing_2 (F : Nat) (S : S_X6) (f : Nat → Int64) (v1 : Int32) (v2 : Int32) (h : s_X4_thing_e F S.1 v1 v2 = some 2) : ev_AH yL_thing mm_L_thing hh_L_thing [.ref 0, .int v1, .int v2, .ref 140] (WL S f) (fun r w => r = some (.int 2) ∧ w = WL S f) := by
  refine ev_catchH (cl := 0) (as1 := [.int v1, .int v2]) (rest := [.int 0, .ref 140]) (pci := 5) (idx := 49) (i := 4) (npc := 19) (Li := [some (.ref 0), some (.int v1), some (.int v2), some (.ref 140), none]) ok_L_thing (by decide +kernel) rfl rfl (Nat.le_of_ble_eq_true rfl) rfl ⟨rfl, rfl⟩ rfl ?_ (th_X4_thing_2 F S.1 v1 v2 h) cv_X4_thing (ev_has_in (k := 820) (by decide +kernel)) (by decide) rfl (WL4 S f) rfl (Nat.le_of_ble_eq_true rfl) ⟨by decide, by decide⟩ (by decide) [⟨0, 10, 13, 21⟩] ⟨0, 10, 17, 13⟩ [] rfl rfl rfl (fun z hz => by
    simp only [List.mem_cons, List.not_mem_nil, or_false] at hz
    subst hz
    exact ⟨2, by decide, by decide, rfl⟩) (by decide) (Or.inr ⟨by decide, rfl⟩) ?_
  · refine ev_run (cs := []) (pc' := 5) (L' := [some (.ref 0), some (.int v1), some (.int v2), some (.ref 140), none]) (st' := [.int v2, .int v1, .ref 0, .int 0, .ref 140]) (w' := WL S f) [] 5 (by with_unfolding_all rfl) trivial ?_
    exact ev_exit ⟨rfl, rfl, rfl, rfl, rfl, rfl⟩
  · refine ev_run (cs := []) (pc' := 20) (L' := [none, none, none, none, none]) (st' := [.int 2]) (w' := WL S f) [] 1 (by with_unfolding_all rfl) trivial ?_
    exact ev_exit ⟨_, _, rfl, ⟨rfl, Or.inl rfl⟩, ⟨rfl, rfl⟩, Nat.le_refl _, Nat.le_refl _⟩
def hh_L_slot : List (Nat × Nat × Nat × Nat) := [(0, 10, 13, 21)]
set_option maxRecDepth 20000 in
theorem rL_slot (F : Nat) (S S' : S_X6) (f : Nat → Int64) (v1 : Int32) (v2 : Int32) (z : Int32) (h : on0 S (s_X4_slot F S.1 v1 v2) = some (z, S')) : ev_AH yL_slot mm_L_slot hh_L_slot [.ref 0, .int v1, .int v2, .ref 140] (WL S f) (fun r w => r = some (.int 0) ∧ w = WL S' (vp_updL f (0 : Int32).toNatClampNeg z.toInt64)) := by
  obtain ⟨h, rfl⟩ := on0_inv h
  refine ev_startH ok_L_slot (by decide +kernel) rfl rfl (Nat.le_of_ble_eq_true rfl) rfl ⟨rfl, rfl⟩ ?_
  refine ev_run (cs := []) (pc' := 5) (L' := [some (.ref 0), some (.int v1), some (.int v2), some (.ref 140), none]) (st' := [.int v2, .int v1, .ref 0, .int 0, .ref 140]) (w' := WL S' f) [] 5 (by with_unfolding_all rfl) trivial ?_
  refine ev_callVp (as1 := [.int v1, .int v2]) (rest := [.int 0, .ref 140]) (t_X4_slot F S'.1 v1 v2 z h) rfl (WL4 S' f) cv_X4_slot ml_L_52 rfl rfl rfl (Nat.le_of_ble_eq_true rfl) ⟨Nat.le_of_ble_eq_true rfl, Nat.le_of_ble_eq_true rfl⟩ ⟨Nat.le_refl _, Nat.le_refl _⟩ ?_ ?_
  · rintro r w ⟨rfl, rfl⟩; rfl
  rintro r w ⟨rfl, rfl⟩
  refine ev_nx (pc' := 8) (st' := [.int z, .int 0, .ref 140]) (w' := WL S' f) rfl rfl (WL4 S' f).symm rfl rfl ?_
  refine ev_run (cs := [vp_in 0 1]) (pc' := 18) (L' := [some (.ref 0), some (.int v1), some (.int v2), some (.ref 140), none]) (st' := [.int 0]) (w' := WL S' (vp_updL f (0 : Int32).toNatClampNeg z.toInt64)) [] 4 (by with_unfolding_all rfl) (by show ¬ _; decide) ?_
  exact ev_exit ⟨_, _, rfl, ⟨rfl, Or.inl rfl⟩, ⟨rfl, rfl⟩, Nat.le_refl _, Nat.le_refl _⟩
set_option maxRecDepth 20000 in
theorem xL_slot_1 (F : Nat) (S : S_X6) (f : Nat → Int64) (v1 : Int32) (v2 : Int32) (h : s_X4_slot_e F S.1 v1 v2 = some 1) : ev_AH yL_slot mm_L_slot hh_L_slot [.ref 0, .int v1, .int v2, .ref 140] (WL S f) (fun r w => r = some (.int 1) ∧ w = WL S f) := by
  refine ev_catchH (cl := 2) (as1 := [.int v1, .int v2]) (rest := [.int 0, .ref 140]) (pci := 5) (idx := 52) (i := 4) (npc := 15) (Li := [some (.ref 0), some (.int v1), some (.int v2), some (.ref 140), none]) ok_L_slot (by decide +kernel) rfl rfl (Nat.le_of_ble_eq_true rfl) rfl ⟨rfl, rfl⟩ rfl ?_ (th_X4_slot_1 F S.1 v1 v2 h) cv_X4_slot (ev_has_in (k := 828) (by decide +kernel)) (by decide) rfl (WL4 S f) rfl (Nat.le_of_ble_eq_true rfl) ⟨by decide, by decide⟩ (by decide) [] ⟨0, 10, 13, 21⟩ [] rfl rfl rfl (fun z hz => absurd hz List.not_mem_nil) (by decide) (Or.inr ⟨by decide, rfl⟩) ?_
  · refine ev_run (cs := []) (pc' := 5) (L' := [some (.ref 0), some (.int v1), some (.int v2), some (.ref 140), none]) (st' := [.int v2, .int v1, .ref 0, .int 0, .ref 140]) (w' := WL S f) [] 5 (by with_unfolding_all rfl) trivial ?_
    exact ev_exit ⟨rfl, rfl, rfl, rfl, rfl, rfl⟩
  · refine ev_run (cs := []) (pc' := 16) (L' := [none, none, none, none, none]) (st' := [.int 1]) (w' := WL S f) [] 1 (by with_unfolding_all rfl) trivial ?_
    exact ev_exit ⟨_, _, rfl, ⟨rfl, Or.inl rfl⟩, ⟨rfl, rfl⟩, Nat.le_refl _, Nat.le_refl _⟩
def hh_L_hand : List (Nat × Nat × Nat × Nat) := [(0, 9, 12, 21)]
set_option maxRecDepth 20000 in
theorem rL_hand (F : Nat) (S S' : S_X6) (f : Nat → Int64) (v1 : Int32) (z : Int32) (h : on0 S (s_X4_hand F S.1 v1) = some (z, S')) : ev_AH yL_hand mm_L_hand hh_L_hand [.ref 0, .int v1, .ref 140] (WL S f) (fun r w => r = some (.int 0) ∧ w = WL S' (vp_updL f (0 : Int32).toNatClampNeg z.toInt64)) := by
  obtain ⟨h, rfl⟩ := on0_inv h
  refine ev_startH ok_L_hand (by decide +kernel) rfl rfl (Nat.le_of_ble_eq_true rfl) rfl ⟨rfl, rfl⟩ ?_
  refine ev_run (cs := []) (pc' := 4) (L' := [some (.ref 0), some (.int v1), some (.ref 140), none]) (st' := [.int v1, .ref 0, .int 0, .ref 140]) (w' := WL S' f) [] 4 (by with_unfolding_all rfl) trivial ?_
  refine ev_callVp (as1 := [.int v1]) (rest := [.int 0, .ref 140]) (t_X4_hand F S'.1 v1 z h) rfl (WL4 S' f) cv_X4_hand ml_L_55 rfl rfl rfl (Nat.le_of_ble_eq_true rfl) ⟨Nat.le_of_ble_eq_true rfl, Nat.le_of_ble_eq_true rfl⟩ ⟨Nat.le_refl _, Nat.le_refl _⟩ ?_ ?_
  · rintro r w ⟨rfl, rfl⟩; rfl
  rintro r w ⟨rfl, rfl⟩
  refine ev_nx (pc' := 7) (st' := [.int z, .int 0, .ref 140]) (w' := WL S' f) rfl rfl (WL4 S' f).symm rfl rfl ?_
  refine ev_run (cs := [vp_in 0 1]) (pc' := 16) (L' := [some (.ref 0), some (.int v1), some (.ref 140), none]) (st' := [.int 0]) (w' := WL S' (vp_updL f (0 : Int32).toNatClampNeg z.toInt64)) [] 4 (by with_unfolding_all rfl) (by show ¬ _; decide) ?_
  exact ev_exit ⟨_, _, rfl, ⟨rfl, Or.inl rfl⟩, ⟨rfl, rfl⟩, Nat.le_refl _, Nat.le_refl _⟩
set_option maxRecDepth 20000 in
theorem xL_hand_1 (F : Nat) (S : S_X6) (f : Nat → Int64) (v1 : Int32) (h : s_X4_hand_e F S.1 v1 = some 1) : ev_AH yL_hand mm_L_hand hh_L_hand [.ref 0, .int v1, .ref 140] (WL S f) (fun r w => r = some (.int 1) ∧ w = WL S f) := by
  refine ev_catchH (cl := 2) (as1 := [.int v1]) (rest := [.int 0, .ref 140]) (pci := 4) (idx := 55) (i := 3) (npc := 13) (Li := [some (.ref 0), some (.int v1), some (.ref 140), none]) ok_L_hand (by decide +kernel) rfl rfl (Nat.le_of_ble_eq_true rfl) rfl ⟨rfl, rfl⟩ rfl ?_ (th_X4_hand_1 F S.1 v1 h) cv_X4_hand (ev_has_in (k := 836) (by decide +kernel)) (by decide) rfl (WL4 S f) rfl (Nat.le_of_ble_eq_true rfl) ⟨by decide, by decide⟩ (by decide) [] ⟨0, 9, 12, 21⟩ [] rfl rfl rfl (fun z hz => absurd hz List.not_mem_nil) (by decide) (Or.inl ⟨3, by decide, rfl, rfl⟩) ?_
  · refine ev_run (cs := []) (pc' := 4) (L' := [some (.ref 0), some (.int v1), some (.ref 140), none]) (st' := [.int v1, .ref 0, .int 0, .ref 140]) (w' := WL S f) [] 4 (by with_unfolding_all rfl) trivial ?_
    exact ev_exit ⟨rfl, rfl, rfl, rfl, rfl, rfl⟩
  · refine ev_run (cs := []) (pc' := 14) (L' := [none, none, none, none]) (st' := [.int 1]) (w' := WL S f) [] 1 (by with_unfolding_all rfl) trivial ?_
    exact ev_exit ⟨_, _, rfl, ⟨rfl, Or.inl rfl⟩, ⟨rfl, rfl⟩, Nat.le_refl _, Nat.le_refl _⟩
def hh_L_report : List (Nat × Nat × Nat × Nat) := [(0, 10, 13, 21), (0, 10, 17, 13)]
set_option maxRecDepth 20000 in
theorem rL_report (F : Nat) (S S' : S_X6) (f : Nat → Int64) (v1 : Int32) (v2 : Int32) (z : Int32) (h : on0 S (s_X4_report F S.1 v1 v2) = some (z, S')) : ev_AH yL_report mm_L_report hh_L_report [.ref 0, .int v1, .int v2, .ref 140] (WL S f) (fun r w => r = some (.int 0) ∧ w = WL S' (vp_updL f (0 : Int32).toNatClampNeg z.toInt64)) := by
  obtain ⟨h, rfl⟩ := on0_inv h
  refine ev_startH ok_L_report (by decide +kernel) rfl rfl (Nat.le_of_ble_eq_true rfl) rfl ⟨rfl, rfl⟩ ?_
  refine ev_run (cs := []) (pc' := 5) (L' := [some (.ref 0), some (.int v1), some (.int v2), some (.ref 140), none]) (st' := [.int v2, .int v1, .ref 0, .int 0, .ref 140]) (w' := WL S' f) [] 5 (by with_unfolding_all rfl) trivial ?_
  refine ev_callVp (as1 := [.int v1, .int v2]) (rest := [.int 0, .ref 140]) (t_X4_report F S'.1 v1 v2 z h) rfl (WL4 S' f) cv_X4_report ml_L_58 rfl rfl rfl (Nat.le_of_ble_eq_true rfl) ⟨Nat.le_of_ble_eq_true rfl, Nat.le_of_ble_eq_true rfl⟩ ⟨Nat.le_refl _, Nat.le_refl _⟩ ?_ ?_
  · rintro r w ⟨rfl, rfl⟩; rfl
  rintro r w ⟨rfl, rfl⟩
  refine ev_nx (pc' := 8) (st' := [.int z, .int 0, .ref 140]) (w' := WL S' f) rfl rfl (WL4 S' f).symm rfl rfl ?_
  refine ev_run (cs := [vp_in 0 1]) (pc' := 22) (L' := [some (.ref 0), some (.int v1), some (.int v2), some (.ref 140), none]) (st' := [.int 0]) (w' := WL S' (vp_updL f (0 : Int32).toNatClampNeg z.toInt64)) [] 4 (by with_unfolding_all rfl) (by show ¬ _; decide) ?_
  exact ev_exit ⟨_, _, rfl, ⟨rfl, Or.inl rfl⟩, ⟨rfl, rfl⟩, Nat.le_refl _, Nat.le_refl _⟩
set_option maxRecDepth 20000 in
theorem xL_report_1 (F : Nat) (S : S_X6) (f : Nat → Int64) (v1 : Int32) (v2 : Int32) (h : s_X4_report_e F S.1 v1 v2 = some 1) : ev_AH yL_report mm_L_report hh_L_report [.ref 0, .int v1, .int v2, .ref 140] (WL S f) (fun r w => r = some (.int 1) ∧ w = WL S f) := by
  refine ev_catchH (cl := 2) (as1 := [.int v1, .int v2]) (rest := [.int 0, .ref 140]) (pci := 5) (idx := 58) (i := 4) (npc := 15) (Li := [some (.ref 0), some (.int v1), some (.int v2), some (.ref 140), none]) ok_L_report (by decide +kernel) rfl rfl (Nat.le_of_ble_eq_true rfl) rfl ⟨rfl, rfl⟩ rfl ?_ (th_X4_report_1 F S.1 v1 v2 h) cv_X4_report (ev_has_in (k := 844) (by decide +kernel)) (by decide) rfl (WL4 S f) rfl (Nat.le_of_ble_eq_true rfl) ⟨by decide, by decide⟩ (by decide) [] ⟨0, 10, 13, 21⟩ [⟨0, 10, 17, 13⟩] rfl rfl rfl (fun z hz => absurd hz List.not_mem_nil) (by decide) (Or.inr ⟨by decide, rfl⟩) ?_
  · refine ev_run (cs := []) (pc' := 5) (L' := [some (.ref 0), some (.int v1), some (.int v2), some (.ref 140), none]) (st' := [.int v2, .int v1, .ref 0, .int 0, .ref 140]) (w' := WL S f) [] 5 (by with_unfolding_all rfl) trivial ?_
    exact ev_exit ⟨rfl, rfl, rfl, rfl, rfl, rfl⟩
  · refine ev_run (cs := []) (pc' := 16) (L' := [none, none, none, none, none]) (st' := [.int 1]) (w' := WL S f) [] 1 (by with_unfolding_all rfl) trivial ?_
    exact ev_exit ⟨_, _, rfl, ⟨rfl, Or.inl rfl⟩, ⟨rfl, rfl⟩, Nat.le_refl _, Nat.le_refl _⟩
set_option maxRecDepth 20000 in
theorem xL_report_2 (F : Nat) (S : S_X6) (f : Nat → Int64) (v1 : Int32) (v2 : Int32) (h : s_X4_report_e F S.1 v1 v2 = some 2) : ev_AH yL_report mm_L_report hh_L_report [.ref 0, .int v1, .int v2, .ref 140] (WL S f) (fun r w => r = some (.int 2) ∧ w = WL S f) := by
  refine ev_catchH (cl := 0) (as1 := [.int v1, .int v2]) (rest := [.int 0, .ref 140]) (pci := 5) (idx := 58) (i := 4) (npc := 19) (Li := [some (.ref 0), some (.int v1), some (.int v2), some (.ref 140), none]) ok_L_report (by decide +kernel) rfl rfl (Nat.le_of_ble_eq_true rfl) rfl ⟨rfl, rfl⟩ rfl ?_ (th_X4_report_2 F S.1 v1 v2 h) cv_X4_report (ev_has_in (k := 844) (by decide +kernel)) (by decide) rfl (WL4 S f) rfl (Nat.le_of_ble_eq_true rfl) ⟨by decide, by decide⟩ (by decide) [⟨0, 10, 13, 21⟩] ⟨0, 10, 17, 13⟩ [] rfl rfl rfl (fun z hz => by
    simp only [List.mem_cons, List.not_mem_nil, or_false] at hz
    subst hz
    exact ⟨2, by decide, by decide, rfl⟩) (by decide) (Or.inr ⟨by decide, rfl⟩) ?_
  · refine ev_run (cs := []) (pc' := 5) (L' := [some (.ref 0), some (.int v1), some (.int v2), some (.ref 140), none]) (st' := [.int v2, .int v1, .ref 0, .int 0, .ref 140]) (w' := WL S f) [] 5 (by with_unfolding_all rfl) trivial ?_
    exact ev_exit ⟨rfl, rfl, rfl, rfl, rfl, rfl⟩
  · refine ev_run (cs := []) (pc' := 20) (L' := [none, none, none, none, none]) (st' := [.int 2]) (w' := WL S f) [] 1 (by with_unfolding_all rfl) trivial ?_
    exact ev_exit ⟨_, _, rfl, ⟨rfl, Or.inl rfl⟩, ⟨rfl, rfl⟩, Nat.le_refl _, Nat.le_refl _⟩
def hh_L_ended : List (Nat × Nat × Nat × Nat) := [(0, 9, 12, 21)]
set_option maxRecDepth 20000 in
theorem rL_ended (F : Nat) (S S' : S_X6) (f : Nat → Int64) (v1 : Int32) (z : Int32) (h : on0 S (s_X4_ended F S.1 v1) = some (z, S')) : ev_AH yL_ended mm_L_ended hh_L_ended [.ref 0, .int v1, .ref 140] (WL S f) (fun r w => r = some (.int 0) ∧ w = WL S' (vp_updL f (0 : Int32).toNatClampNeg z.toInt64)) := by
  obtain ⟨h, rfl⟩ := on0_inv h
  refine ev_startH ok_L_ended (by decide +kernel) rfl rfl (Nat.le_of_ble_eq_true rfl) rfl ⟨rfl, rfl⟩ ?_
  refine ev_run (cs := []) (pc' := 4) (L' := [some (.ref 0), some (.int v1), some (.ref 140), none]) (st' := [.int v1, .ref 0, .int 0, .ref 140]) (w' := WL S' f) [] 4 (by with_unfolding_all rfl) trivial ?_
  refine ev_callVp (as1 := [.int v1]) (rest := [.int 0, .ref 140]) (t_X4_ended F S'.1 v1 z h) rfl (WL4 S' f) cv_X4_ended ml_L_61 rfl rfl rfl (Nat.le_of_ble_eq_true rfl) ⟨Nat.le_of_ble_eq_true rfl, Nat.le_of_ble_eq_true rfl⟩ ⟨Nat.le_refl _, Nat.le_refl _⟩ ?_ ?_
  · rintro r w ⟨rfl, rfl⟩; rfl
  rintro r w ⟨rfl, rfl⟩
  refine ev_nx (pc' := 7) (st' := [.int z, .int 0, .ref 140]) (w' := WL S' f) rfl rfl (WL4 S' f).symm rfl rfl ?_
  refine ev_run (cs := [vp_in 0 1]) (pc' := 16) (L' := [some (.ref 0), some (.int v1), some (.ref 140), none]) (st' := [.int 0]) (w' := WL S' (vp_updL f (0 : Int32).toNatClampNeg z.toInt64)) [] 4 (by with_unfolding_all rfl) (by show ¬ _; decide) ?_
  exact ev_exit ⟨_, _, rfl, ⟨rfl, Or.inl rfl⟩, ⟨rfl, rfl⟩, Nat.le_refl _, Nat.le_refl _⟩
set_option maxRecDepth 20000 in
theorem xL_ended_1 (F : Nat) (S : S_X6) (f : Nat → Int64) (v1 : Int32) (h : s_X4_ended_e F S.1 v1 = some 1) : ev_AH yL_ended mm_L_ended hh_L_ended [.ref 0, .int v1, .ref 140] (WL S f) (fun r w => r = some (.int 1) ∧ w = WL S f) := by
  refine ev_catchH (cl := 2) (as1 := [.int v1]) (rest := [.int 0, .ref 140]) (pci := 4) (idx := 61) (i := 3) (npc := 13) (Li := [some (.ref 0), some (.int v1), some (.ref 140), none]) ok_L_ended (by decide +kernel) rfl rfl (Nat.le_of_ble_eq_true rfl) rfl ⟨rfl, rfl⟩ rfl ?_ (th_X4_ended_1 F S.1 v1 h) cv_X4_ended (ev_has_in (k := 853) (by decide +kernel)) (by decide) rfl (WL4 S f) rfl (Nat.le_of_ble_eq_true rfl) ⟨by decide, by decide⟩ (by decide) [] ⟨0, 9, 12, 21⟩ [] rfl rfl rfl (fun z hz => absurd hz List.not_mem_nil) (by decide) (Or.inl ⟨3, by decide, rfl, rfl⟩) ?_
  · refine ev_run (cs := []) (pc' := 4) (L' := [some (.ref 0), some (.int v1), some (.ref 140), none]) (st' := [.int v1, .ref 0, .int 0, .ref 140]) (w' := WL S f) [] 4 (by with_unfolding_all rfl) trivial ?_
    exact ev_exit ⟨rfl, rfl, rfl, rfl, rfl, rfl⟩
  · refine ev_run (cs := []) (pc' := 14) (L' := [none, none, none, none]) (st' := [.int 1]) (w' := WL S f) [] 1 (by with_unfolding_all rfl) trivial ?_
    exact ev_exit ⟨_, _, rfl, ⟨rfl, Or.inl rfl⟩, ⟨rfl, rfl⟩, Nat.le_refl _, Nat.le_refl _⟩
def hh_L_count : List (Nat × Nat × Nat × Nat) := [(0, 9, 12, 13)]
set_option maxRecDepth 20000 in
theorem rL_count (F : Nat) (S S' : S_X6) (f : Nat → Int64) (v1 : Int32) (z : Int32) (h : on0 S (s_X4_count F S.1 v1) = some (z, S')) : ev_AH yL_count mm_L_count hh_L_count [.ref 0, .int v1, .ref 140] (WL S f) (fun r w => r = some (.int 0) ∧ w = WL S' (vp_updL f (0 : Int32).toNatClampNeg z.toInt64)) := by
  obtain ⟨h, rfl⟩ := on0_inv h
  refine ev_startH ok_L_count (by decide +kernel) rfl rfl (Nat.le_of_ble_eq_true rfl) rfl ⟨rfl, rfl⟩ ?_
  refine ev_run (cs := []) (pc' := 4) (L' := [some (.ref 0), some (.int v1), some (.ref 140), none]) (st' := [.int v1, .ref 0, .int 0, .ref 140]) (w' := WL S' f) [] 4 (by with_unfolding_all rfl) trivial ?_
  refine ev_callVp (as1 := [.int v1]) (rest := [.int 0, .ref 140]) (t_X4_count F S'.1 v1 z h) rfl (WL4 S' f) cv_X4_count ml_L_64 rfl rfl rfl (Nat.le_of_ble_eq_true rfl) ⟨Nat.le_of_ble_eq_true rfl, Nat.le_of_ble_eq_true rfl⟩ ⟨Nat.le_refl _, Nat.le_refl _⟩ ?_ ?_
  · rintro r w ⟨rfl, rfl⟩; rfl
  rintro r w ⟨rfl, rfl⟩
  refine ev_nx (pc' := 7) (st' := [.int z, .int 0, .ref 140]) (w' := WL S' f) rfl rfl (WL4 S' f).symm rfl rfl ?_
  refine ev_run (cs := [vp_in 0 1]) (pc' := 16) (L' := [some (.ref 0), some (.int v1), some (.ref 140), none]) (st' := [.int 0]) (w' := WL S' (vp_updL f (0 : Int32).toNatClampNeg z.toInt64)) [] 4 (by with_unfolding_all rfl) (by show ¬ _; decide) ?_
  exact ev_exit ⟨_, _, rfl, ⟨rfl, Or.inl rfl⟩, ⟨rfl, rfl⟩, Nat.le_refl _, Nat.le_refl _⟩
set_option maxRecDepth 20000 in
theorem xL_count_1 (F : Nat) (S : S_X6) (f : Nat → Int64) (v1 : Int32) (h : s_X4_count_e F S.1 v1 = some 1) : ev_AH yL_count mm_L_count hh_L_count [.ref 0, .int v1, .ref 140] (WL S f) (fun r w => r = some (.int 1) ∧ w = WL S f) := by
  refine ev_catchH (cl := 0) (as1 := [.int v1]) (rest := [.int 0, .ref 140]) (pci := 4) (idx := 64) (i := 3) (npc := 13) (Li := [some (.ref 0), some (.int v1), some (.ref 140), none]) ok_L_count (by decide +kernel) rfl rfl (Nat.le_of_ble_eq_true rfl) rfl ⟨rfl, rfl⟩ rfl ?_ (th_X4_count_1 F S.1 v1 h) cv_X4_count (ev_has_in (k := 861) (by decide +kernel)) (by decide) rfl (WL4 S f) rfl (Nat.le_of_ble_eq_true rfl) ⟨by decide, by decide⟩ (by decide) [] ⟨0, 9, 12, 13⟩ [] rfl rfl rfl (fun z hz => absurd hz List.not_mem_nil) (by decide) (Or.inl ⟨3, by decide, rfl, rfl⟩) ?_
  · refine ev_run (cs := []) (pc' := 4) (L' := [some (.ref 0), some (.int v1), some (.ref 140), none]) (st' := [.int v1, .ref 0, .int 0, .ref 140]) (w' := WL S f) [] 4 (by with_unfolding_all rfl) trivial ?_
    exact ev_exit ⟨rfl, rfl, rfl, rfl, rfl, rfl⟩
  · refine ev_run (cs := []) (pc' := 14) (L' := [none, none, none, none]) (st' := [.int 1]) (w' := WL S f) [] 1 (by with_unfolding_all rfl) trivial ?_
    exact ev_exit ⟨_, _, rfl, ⟨rfl, Or.inl rfl⟩, ⟨rfl, rfl⟩, Nat.le_refl _, Nat.le_refl _⟩
def hh_L_setting : List (Nat × Nat × Nat × Nat) := [(0, 9, 12, 21)]
set_option maxRecDepth 20000 in
theorem rL_setting (F : Nat) (S S' : S_X6) (f : Nat → Int64) (v1 : Int32) (z : Int32) (h : on0 S (s_X4_setting F S.1 v1) = some (z, S')) : ev_AH yL_setting mm_L_setting hh_L_setting [.ref 0, .int v1, .ref 140] (WL S f) (fun r w => r = some (.int 0) ∧ w = WL S' (vp_updL f (0 : Int32).toNatClampNeg z.toInt64)) := by
  obtain ⟨h, rfl⟩ := on0_inv h
  refine ev_startH ok_L_setting (by decide +kernel) rfl rfl (Nat.le_of_ble_eq_true rfl) rfl ⟨rfl, rfl⟩ ?_
  refine ev_run (cs := []) (pc' := 4) (L' := [some (.ref 0), some (.int v1), some (.ref 140), none]) (st' := [.int v1, .ref 0, .int 0, .ref 140]) (w' := WL S' f) [] 4 (by with_unfolding_all rfl) trivial ?_
  refine ev_callVp (as1 := [.int v1]) (rest := [.int 0, .ref 140]) (t_X4_setting F S'.1 v1 z h) rfl (WL4 S' f) cv_X4_setting ml_L_67 rfl rfl rfl (Nat.le_of_ble_eq_true rfl) ⟨Nat.le_of_ble_eq_true rfl, Nat.le_of_ble_eq_true rfl⟩ ⟨Nat.le_refl _, Nat.le_refl _⟩ ?_ ?_
  · rintro r w ⟨rfl, rfl⟩; rfl
  rintro r w ⟨rfl, rfl⟩
  refine ev_nx (pc' := 7) (st' := [.int z, .int 0, .ref 140]) (w' := WL S' f) rfl rfl (WL4 S' f).symm rfl rfl ?_
  refine ev_run (cs := [vp_in 0 1]) (pc' := 16) (L' := [some (.ref 0), some (.int v1), some (.ref 140), none]) (st' := [.int 0]) (w' := WL S' (vp_updL f (0 : Int32).toNatClampNeg z.toInt64)) [] 4 (by with_unfolding_all rfl) (by show ¬ _; decide) ?_
  exact ev_exit ⟨_, _, rfl, ⟨rfl, Or.inl rfl⟩, ⟨rfl, rfl⟩, Nat.le_refl _, Nat.le_refl _⟩
set_option maxRecDepth 20000 in
theorem xL_setting_1 (F : Nat) (S : S_X6) (f : Nat → Int64) (v1 : Int32) (h : s_X4_setting_e F S.1 v1 = some 1) : ev_AH yL_setting mm_L_setting hh_L_setting [.ref 0, .int v1, .ref 140] (WL S f) (fun r w => r = some (.int 1) ∧ w = WL S f) := by
  refine ev_catchH (cl := 2) (as1 := [.int v1]) (rest := [.int 0, .ref 140]) (pci := 4) (idx := 67) (i := 3) (npc := 13) (Li := [some (.ref 0), some (.int v1), some (.ref 140), none]) ok_L_setting (by decide +kernel) rfl rfl (Nat.le_of_ble_eq_true rfl) rfl ⟨rfl, rfl⟩ rfl ?_ (th_X4_setting_1 F S.1 v1 h) cv_X4_setting (ev_has_in (k := 865) (by decide +kernel)) (by decide) rfl (WL4 S f) rfl (Nat.le_of_ble_eq_true rfl) ⟨by decide, by decide⟩ (by decide) [] ⟨0, 9, 12, 21⟩ [] rfl rfl rfl (fun z hz => absurd hz List.not_mem_nil) (by decide) (Or.inl ⟨3, by decide, rfl, rfl⟩) ?_
  · refine ev_run (cs := []) (pc' := 4) (L' := [some (.ref 0), some (.int v1), some (.ref 140), none]) (st' := [.int v1, .ref 0, .int 0, .ref 140]) (w' := WL S f) [] 4 (by with_unfolding_all rfl) trivial ?_
    exact ev_exit ⟨rfl, rfl, rfl, rfl, rfl, rfl⟩
  · refine ev_run (cs := []) (pc' := 14) (L' := [none, none, none, none]) (st' := [.int 1]) (w' := WL S f) [] 1 (by with_unfolding_all rfl) trivial ?_
    exact ev_exit ⟨_, _, rfl, ⟨rfl, Or.inl rfl⟩, ⟨rfl, rfl⟩, Nat.le_refl _, Nat.le_refl _⟩
def hh_L_ifPassed : List (Nat × Nat × Nat × Nat) := [(0, 10, 13, 13)]
set_option maxRecDepth 20000 in
theorem rL_ifPassed (F : Nat) (S S' : S_X6) (f : Nat → Int64) (v1 : Int32) (v2 : Int32) (z : Int32) (h : on4 S (s_X4_ifPassed F S.1 v1 v2) = some (z, S')) : ev_AH yL_ifPassed mm_L_ifPassed hh_L_ifPassed [.ref 0, .int v1, .int v2, .ref 140] (WL S f) (fun r w => r = some (.int 0) ∧ w = WL S' (vp_updL f (0 : Int32).toNatClampNeg z.toInt64)) := by
  obtain ⟨u, h4, rfl⟩ := on4_inv h
  refine ev_startH ok_L_ifPassed (by decide +kernel) rfl rfl (Nat.le_of_ble_eq_true rfl) rfl ⟨rfl, rfl⟩ ?_
  refine ev_run (cs := []) (pc' := 5) (L' := [some (.ref 0), some (.int v1), some (.int v2), some (.ref 140), none]) (st' := [.int v2, .int v1, .ref 0, .int 0, .ref 140]) (w' := WL S f) [] 5 (by with_unfolding_all rfl) trivial ?_
  refine ev_callVp (as1 := [.int v1, .int v2]) (rest := [.int 0, .ref 140]) (t_X4_ifPassed F S.1 v1 v2 (z, u) h4) rfl (WL4 S f) cv_X4_ifPassed ml_L_70 rfl rfl rfl (Nat.le_of_ble_eq_true rfl) ⟨Nat.le_of_ble_eq_true rfl, Nat.le_of_ble_eq_true rfl⟩ ⟨Nat.le_refl _, Nat.le_refl _⟩ ?_ ?_
  · rintro r w ⟨rfl, rfl⟩; rfl
  rintro r w ⟨rfl, rfl⟩
  refine ev_nx (pc' := 8) (st' := [.int z, .int 0, .ref 140]) (w' := WL (m_X6_g u S) f) rfl rfl (WL4g S u f) rfl rfl ?_
  refine ev_run (cs := [vp_in 0 1]) (pc' := 18) (L' := [some (.ref 0), some (.int v1), some (.int v2), some (.ref 140), none]) (st' := [.int 0]) (w' := WL (m_X6_g u S) (vp_updL f (0 : Int32).toNatClampNeg z.toInt64)) [] 4 (by with_unfolding_all rfl) (by show ¬ _; decide) ?_
  exact ev_exit ⟨_, _, rfl, ⟨rfl, Or.inl rfl⟩, ⟨rfl, rfl⟩, Nat.le_refl _, Nat.le_refl _⟩
set_option maxRecDepth 20000 in
theorem xL_ifPassed_1 (F : Nat) (S : S_X6) (f : Nat → Int64) (v1 : Int32) (v2 : Int32) (h : s_X4_ifPassed_e F S.1 v1 v2 = some 1) : ev_AH yL_ifPassed mm_L_ifPassed hh_L_ifPassed [.ref 0, .int v1, .int v2, .ref 140] (WL S f) (fun r w => r = some (.int 1) ∧ w = WL S f) := by
  refine ev_catchH (cl := 0) (as1 := [.int v1, .int v2]) (rest := [.int 0, .ref 140]) (pci := 5) (idx := 70) (i := 4) (npc := 15) (Li := [some (.ref 0), some (.int v1), some (.int v2), some (.ref 140), none]) ok_L_ifPassed (by decide +kernel) rfl rfl (Nat.le_of_ble_eq_true rfl) rfl ⟨rfl, rfl⟩ rfl ?_ (th_X4_ifPassed_1 F S.1 v1 v2 h) cv_X4_ifPassed (ev_has_in (k := 872) (by decide +kernel)) (by decide) rfl (WL4 S f) rfl (Nat.le_of_ble_eq_true rfl) ⟨by decide, by decide⟩ (by decide) [] ⟨0, 10, 13, 13⟩ [] rfl rfl rfl (fun z hz => absurd hz List.not_mem_nil) (by decide) (Or.inr ⟨by decide, rfl⟩) ?_
  · refine ev_run (cs := []) (pc' := 5) (L' := [some (.ref 0), some (.int v1), some (.int v2), some (.ref 140), none]) (st' := [.int v2, .int v1, .ref 0, .int 0, .ref 140]) (w' := WL S f) [] 5 (by with_unfolding_all rfl) trivial ?_
    exact ev_exit ⟨rfl, rfl, rfl, rfl, rfl, rfl⟩
  · refine ev_run (cs := []) (pc' := 16) (L' := [none, none, none, none, none]) (st' := [.int 1]) (w' := WL S f) [] 1 (by with_unfolding_all rfl) trivial ?_
    exact ev_exit ⟨_, _, rfl, ⟨rfl, Or.inl rfl⟩, ⟨rfl, rfl⟩, Nat.le_refl _, Nat.le_refl _⟩
def hh_L_endsIn : List (Nat × Nat × Nat × Nat) := [(0, 9, 12, 21)]
set_option maxRecDepth 20000 in
theorem rL_endsIn (F : Nat) (S S' : S_X6) (f : Nat → Int64) (v1 : Int32) (z : Int32) (h : on4 S (s_X4_endsIn F S.1 v1) = some (z, S')) : ev_AH yL_endsIn mm_L_endsIn hh_L_endsIn [.ref 0, .int v1, .ref 140] (WL S f) (fun r w => r = some (.int 0) ∧ w = WL S' (vp_updL f (0 : Int32).toNatClampNeg z.toInt64)) := by
  obtain ⟨u, h4, rfl⟩ := on4_inv h
  refine ev_startH ok_L_endsIn (by decide +kernel) rfl rfl (Nat.le_of_ble_eq_true rfl) rfl ⟨rfl, rfl⟩ ?_
  refine ev_run (cs := []) (pc' := 4) (L' := [some (.ref 0), some (.int v1), some (.ref 140), none]) (st' := [.int v1, .ref 0, .int 0, .ref 140]) (w' := WL S f) [] 4 (by with_unfolding_all rfl) trivial ?_
  refine ev_callVp (as1 := [.int v1]) (rest := [.int 0, .ref 140]) (t_X4_endsIn F S.1 v1 (z, u) h4) rfl (WL4 S f) cv_X4_endsIn ml_L_73 rfl rfl rfl (Nat.le_of_ble_eq_true rfl) ⟨Nat.le_of_ble_eq_true rfl, Nat.le_of_ble_eq_true rfl⟩ ⟨Nat.le_refl _, Nat.le_refl _⟩ ?_ ?_
  · rintro r w ⟨rfl, rfl⟩; rfl
  rintro r w ⟨rfl, rfl⟩
  refine ev_nx (pc' := 7) (st' := [.int z, .int 0, .ref 140]) (w' := WL (m_X6_g u S) f) rfl rfl (WL4g S u f) rfl rfl ?_
  refine ev_run (cs := [vp_in 0 1]) (pc' := 16) (L' := [some (.ref 0), some (.int v1), some (.ref 140), none]) (st' := [.int 0]) (w' := WL (m_X6_g u S) (vp_updL f (0 : Int32).toNatClampNeg z.toInt64)) [] 4 (by with_unfolding_all rfl) (by show ¬ _; decide) ?_
  exact ev_exit ⟨_, _, rfl, ⟨rfl, Or.inl rfl⟩, ⟨rfl, rfl⟩, Nat.le_refl _, Nat.le_refl _⟩
set_option maxRecDepth 20000 in
theorem xL_endsIn_1 (F : Nat) (S : S_X6) (f : Nat → Int64) (v1 : Int32) (h : s_X4_endsIn_e F S.1 v1 = some 1) : ev_AH yL_endsIn mm_L_endsIn hh_L_endsIn [.ref 0, .int v1, .ref 140] (WL S f) (fun r w => r = some (.int 1) ∧ w = WL S f) := by
  refine ev_catchH (cl := 2) (as1 := [.int v1]) (rest := [.int 0, .ref 140]) (pci := 4) (idx := 73) (i := 3) (npc := 13) (Li := [some (.ref 0), some (.int v1), some (.ref 140), none]) ok_L_endsIn (by decide +kernel) rfl rfl (Nat.le_of_ble_eq_true rfl) rfl ⟨rfl, rfl⟩ rfl ?_ (th_X4_endsIn_1 F S.1 v1 h) cv_X4_endsIn (ev_has_in (k := 880) (by decide +kernel)) (by decide) rfl (WL4 S f) rfl (Nat.le_of_ble_eq_true rfl) ⟨by decide, by decide⟩ (by decide) [] ⟨0, 9, 12, 21⟩ [] rfl rfl rfl (fun z hz => absurd hz List.not_mem_nil) (by decide) (Or.inl ⟨3, by decide, rfl, rfl⟩) ?_
  · refine ev_run (cs := []) (pc' := 4) (L' := [some (.ref 0), some (.int v1), some (.ref 140), none]) (st' := [.int v1, .ref 0, .int 0, .ref 140]) (w' := WL S f) [] 4 (by with_unfolding_all rfl) trivial ?_
    exact ev_exit ⟨rfl, rfl, rfl, rfl, rfl, rfl⟩
  · refine ev_run (cs := []) (pc' := 14) (L' := [none, none, none, none]) (st' := [.int 1]) (w' := WL S f) [] 1 (by with_unfolding_all rfl) trivial ?_
    exact ev_exit ⟨_, _, rfl, ⟨rfl, Or.inl rfl⟩, ⟨rfl, rfl⟩, Nat.le_refl _, Nat.le_refl _⟩
def hh_L_ifTried : List (Nat × Nat × Nat × Nat) := [(0, 9, 12, 13)]
set_option maxRecDepth 20000 in
theorem rL_ifTried (F : Nat) (S S' : S_X6) (f : Nat → Int64) (v1 : Int32) (z : Int32) (h : on4 S (s_X4_ifTried F S.1 v1) = some (z, S')) : ev_AH yL_ifTried mm_L_ifTried hh_L_ifTried [.ref 0, .int v1, .ref 140] (WL S f) (fun r w => r = some (.int 0) ∧ w = WL S' (vp_updL f (0 : Int32).toNatClampNeg z.toInt64)) := by
  obtain ⟨u, h4, rfl⟩ := on4_inv h
  refine ev_startH ok_L_ifTried (by decide +kernel) rfl rfl (Nat.le_of_ble_eq_true rfl) rfl ⟨rfl, rfl⟩ ?_
  refine ev_run (cs := []) (pc' := 4) (L' := [some (.ref 0), some (.int v1), some (.ref 140), none]) (st' := [.int v1, .ref 0, .int 0, .ref 140]) (w' := WL S f) [] 4 (by with_unfolding_all rfl) trivial ?_
  refine ev_callVp (as1 := [.int v1]) (rest := [.int 0, .ref 140]) (t_X4_ifTried F S.1 v1 (z, u) h4) rfl (WL4 S f) cv_X4_ifTried ml_L_76 rfl rfl rfl (Nat.le_of_ble_eq_true rfl) ⟨Nat.le_of_ble_eq_true rfl, Nat.le_of_ble_eq_true rfl⟩ ⟨Nat.le_refl _, Nat.le_refl _⟩ ?_ ?_
  · rintro r w ⟨rfl, rfl⟩; rfl
  rintro r w ⟨rfl, rfl⟩
  refine ev_nx (pc' := 7) (st' := [.int z, .int 0, .ref 140]) (w' := WL (m_X6_g u S) f) rfl rfl (WL4g S u f) rfl rfl ?_
  refine ev_run (cs := [vp_in 0 1]) (pc' := 16) (L' := [some (.ref 0), some (.int v1), some (.ref 140), none]) (st' := [.int 0]) (w' := WL (m_X6_g u S) (vp_updL f (0 : Int32).toNatClampNeg z.toInt64)) [] 4 (by with_unfolding_all rfl) (by show ¬ _; decide) ?_
  exact ev_exit ⟨_, _, rfl, ⟨rfl, Or.inl rfl⟩, ⟨rfl, rfl⟩, Nat.le_refl _, Nat.le_refl _⟩
set_option maxRecDepth 20000 in
theorem xL_ifTried_1 (F : Nat) (S : S_X6) (f : Nat → Int64) (v1 : Int32) (h : s_X4_ifTried_e F S.1 v1 = some 1) : ev_AH yL_ifTried mm_L_ifTried hh_L_ifTried [.ref 0, .int v1, .ref 140] (WL S f) (fun r w => r = some (.int 1) ∧ w = WL S f) := by
  refine ev_catchH (cl := 0) (as1 := [.int v1]) (rest := [.int 0, .ref 140]) (pci := 4) (idx := 76) (i := 3) (npc := 13) (Li := [some (.ref 0), some (.int v1), some (.ref 140), none]) ok_L_ifTried (by decide +kernel) rfl rfl (Nat.le_of_ble_eq_true rfl) rfl ⟨rfl, rfl⟩ rfl ?_ (th_X4_ifTried_1 F S.1 v1 h) cv_X4_ifTried (ev_has_in (k := 887) (by decide +kernel)) (by decide) rfl (WL4 S f) rfl (Nat.le_of_ble_eq_true rfl) ⟨by decide, by decide⟩ (by decide) [] ⟨0, 9, 12, 13⟩ [] rfl rfl rfl (fun z hz => absurd hz List.not_mem_nil) (by decide) (Or.inl ⟨3, by decide, rfl, rfl⟩) ?_
  · refine ev_run (cs := []) (pc' := 4) (L' := [some (.ref 0), some (.int v1), some (.ref 140), none]) (st' := [.int v1, .ref 0, .int 0, .ref 140]) (w' := WL S f) [] 4 (by with_unfolding_all rfl) trivial ?_
    exact ev_exit ⟨rfl, rfl, rfl, rfl, rfl, rfl⟩
  · refine ev_run (cs := []) (pc' := 14) (L' := [none, none, none, none]) (st' := [.int 1]) (w' := WL S f) [] 1 (by with_unfolding_all rfl) trivial ?_
    exact ev_exit ⟨_, _, rfl, ⟨rfl, Or.inl rfl⟩, ⟨rfl, rfl⟩, Nat.le_refl _, Nat.le_refl _⟩
def hh_L_ring : List (Nat × Nat × Nat × Nat) := [(0, 9, 12, 21)]
set_option maxRecDepth 20000 in
theorem rL_ring (F : Nat) (S S' : S_X6) (f : Nat → Int64) (v1 : Int32) (z : Int32) (h : on0 S (s_X4_ring F S.1 v1) = some (z, S')) : ev_AH yL_ring mm_L_ring hh_L_ring [.ref 0, .int v1, .ref 140] (WL S f) (fun r w => r = some (.int 0) ∧ w = WL S' (vp_updL f (0 : Int32).toNatClampNeg z.toInt64)) := by
  obtain ⟨h, rfl⟩ := on0_inv h
  refine ev_startH ok_L_ring (by decide +kernel) rfl rfl (Nat.le_of_ble_eq_true rfl) rfl ⟨rfl, rfl⟩ ?_
  refine ev_run (cs := []) (pc' := 4) (L' := [some (.ref 0), some (.int v1), some (.ref 140), none]) (st' := [.int v1, .ref 0, .int 0, .ref 140]) (w' := WL S' f) [] 4 (by with_unfolding_all rfl) trivial ?_
  refine ev_callVp (as1 := [.int v1]) (rest := [.int 0, .ref 140]) (t_X4_ring F S'.1 v1 z h) rfl (WL4 S' f) cv_X4_ring ml_L_79 rfl rfl rfl (Nat.le_of_ble_eq_true rfl) ⟨Nat.le_of_ble_eq_true rfl, Nat.le_of_ble_eq_true rfl⟩ ⟨Nat.le_refl _, Nat.le_refl _⟩ ?_ ?_
  · rintro r w ⟨rfl, rfl⟩; rfl
  rintro r w ⟨rfl, rfl⟩
  refine ev_nx (pc' := 7) (st' := [.int z, .int 0, .ref 140]) (w' := WL S' f) rfl rfl (WL4 S' f).symm rfl rfl ?_
  refine ev_run (cs := [vp_in 0 1]) (pc' := 16) (L' := [some (.ref 0), some (.int v1), some (.ref 140), none]) (st' := [.int 0]) (w' := WL S' (vp_updL f (0 : Int32).toNatClampNeg z.toInt64)) [] 4 (by with_unfolding_all rfl) (by show ¬ _; decide) ?_
  exact ev_exit ⟨_, _, rfl, ⟨rfl, Or.inl rfl⟩, ⟨rfl, rfl⟩, Nat.le_refl _, Nat.le_refl _⟩
set_option maxRecDepth 20000 in
theorem xL_ring_1 (F : Nat) (S : S_X6) (f : Nat → Int64) (v1 : Int32) (h : s_X4_ring_e F S.1 v1 = some 1) : ev_AH yL_ring mm_L_ring hh_L_ring [.ref 0, .int v1, .ref 140] (WL S f) (fun r w => r = some (.int 1) ∧ w = WL S f) := by
  refine ev_catchH (cl := 2) (as1 := [.int v1]) (rest := [.int 0, .ref 140]) (pci := 4) (idx := 79) (i := 3) (npc := 13) (Li := [some (.ref 0), some (.int v1), some (.ref 140), none]) ok_L_ring (by decide +kernel) rfl rfl (Nat.le_of_ble_eq_true rfl) rfl ⟨rfl, rfl⟩ rfl ?_ (th_X4_ring_1 F S.1 v1 h) cv_X4_ring (ev_has_in (k := 895) (by decide +kernel)) (by decide) rfl (WL4 S f) rfl (Nat.le_of_ble_eq_true rfl) ⟨by decide, by decide⟩ (by decide) [] ⟨0, 9, 12, 21⟩ [] rfl rfl rfl (fun z hz => absurd hz List.not_mem_nil) (by decide) (Or.inl ⟨3, by decide, rfl, rfl⟩) ?_
  · refine ev_run (cs := []) (pc' := 4) (L' := [some (.ref 0), some (.int v1), some (.ref 140), none]) (st' := [.int v1, .ref 0, .int 0, .ref 140]) (w' := WL S f) [] 4 (by with_unfolding_all rfl) trivial ?_
    exact ev_exit ⟨rfl, rfl, rfl, rfl, rfl, rfl⟩
  · refine ev_run (cs := []) (pc' := 14) (L' := [none, none, none, none]) (st' := [.int 1]) (w' := WL S f) [] 1 (by with_unfolding_all rfl) trivial ?_
    exact ev_exit ⟨_, _, rfl, ⟨rfl, Or.inl rfl⟩, ⟨rfl, rfl⟩, Nat.le_refl _, Nat.le_refl _⟩
def hh_L_bestCut : List (Nat × Nat × Nat × Nat) := [(0, 9, 12, 13)]
set_option maxRecDepth 20000 in
theorem rL_bestCut (F : Nat) (S S' : S_X6) (f : Nat → Int64) (v1 : Int32) (z : Int32) (h : on0 S (s_X4_bestCut F S.1 v1) = some (z, S')) : ev_AH yL_bestCut mm_L_bestCut hh_L_bestCut [.ref 0, .int v1, .ref 140] (WL S f) (fun r w => r = some (.int 0) ∧ w = WL S' (vp_updL f (0 : Int32).toNatClampNeg z.toInt64)) := by
  obtain ⟨h, rfl⟩ := on0_inv h
  refine ev_startH ok_L_bestCut (by decide +kernel) rfl rfl (Nat.le_of_ble_eq_true rfl) rfl ⟨rfl, rfl⟩ ?_
  refine ev_run (cs := []) (pc' := 4) (L' := [some (.ref 0), some (.int v1), some (.ref 140), none]) (st' := [.int v1, .ref 0, .int 0, .ref 140]) (w' := WL S' f) [] 4 (by with_unfolding_all rfl) trivial ?_
  refine ev_callVp (as1 := [.int v1]) (rest := [.int 0, .ref 140]) (t_X4_bestCut F S'.1 v1 z h) rfl (WL4 S' f) cv_X4_bestCut ml_L_82 rfl rfl rfl (Nat.le_of_ble_eq_true rfl) ⟨Nat.le_of_ble_eq_true rfl, Nat.le_of_ble_eq_true rfl⟩ ⟨Nat.le_refl _, Nat.le_refl _⟩ ?_ ?_
  · rintro r w ⟨rfl, rfl⟩; rfl
  rintro r w ⟨rfl, rfl⟩
  refine ev_nx (pc' := 7) (st' := [.int z, .int 0, .ref 140]) (w' := WL S' f) rfl rfl (WL4 S' f).symm rfl rfl ?_
  refine ev_run (cs := [vp_in 0 1]) (pc' := 16) (L' := [some (.ref 0), some (.int v1), some (.ref 140), none]) (st' := [.int 0]) (w' := WL S' (vp_updL f (0 : Int32).toNatClampNeg z.toInt64)) [] 4 (by with_unfolding_all rfl) (by show ¬ _; decide) ?_
  exact ev_exit ⟨_, _, rfl, ⟨rfl, Or.inl rfl⟩, ⟨rfl, rfl⟩, Nat.le_refl _, Nat.le_refl _⟩
set_option maxRecDepth 20000 in
theorem xL_bestCut_1 (F : Nat) (S : S_X6) (f : Nat → Int64) (v1 : Int32) (h : s_X4_bestCut_e F S.1 v1 = some 1) : ev_AH yL_bestCut mm_L_bestCut hh_L_bestCut [.ref 0, .int v1, .ref 140] (WL S f) (fun r w => r = some (.int 1) ∧ w = WL S f) := by
  refine ev_catchH (cl := 0) (as1 := [.int v1]) (rest := [.int 0, .ref 140]) (pci := 4) (idx := 82) (i := 3) (npc := 13) (Li := [some (.ref 0), some (.int v1), some (.ref 140), none]) ok_L_bestCut (by decide +kernel) rfl rfl (Nat.le_of_ble_eq_true rfl) rfl ⟨rfl, rfl⟩ rfl ?_ (th_X4_bestCut_1 F S.1 v1 h) cv_X4_bestCut (ev_has_in (k := 902) (by decide +kernel)) (by decide) rfl (WL4 S f) rfl (Nat.le_of_ble_eq_true rfl) ⟨by decide, by decide⟩ (by decide) [] ⟨0, 9, 12, 13⟩ [] rfl rfl rfl (fun z hz => absurd hz List.not_mem_nil) (by decide) (Or.inl ⟨3, by decide, rfl, rfl⟩) ?_
  · refine ev_run (cs := []) (pc' := 4) (L' := [some (.ref 0), some (.int v1), some (.ref 140), none]) (st' := [.int v1, .ref 0, .int 0, .ref 140]) (w' := WL S f) [] 4 (by with_unfolding_all rfl) trivial ?_
    exact ev_exit ⟨rfl, rfl, rfl, rfl, rfl, rfl⟩
  · refine ev_run (cs := []) (pc' := 14) (L' := [none, none, none, none]) (st' := [.int 1]) (w' := WL S f) [] 1 (by with_unfolding_all rfl) trivial ?_
    exact ev_exit ⟨_, _, rfl, ⟨rfl, Or.inl rfl⟩, ⟨rfl, rfl⟩, Nat.le_refl _, Nat.le_refl _⟩
def hh_L_bears : List (Nat × Nat × Nat × Nat) := [(0, 9, 12, 21)]
set_option maxRecDepth 20000 in
theorem rL_bears (F : Nat) (S S' : S_X6) (f : Nat → Int64) (v1 : Int32) (z : Int32) (h : on4 S (s_X4_bears F S.1 v1) = some (z, S')) : ev_AH yL_bears mm_L_bears hh_L_bears [.ref 0, .int v1, .ref 140] (WL S f) (fun r w => r = some (.int 0) ∧ w = WL S' (vp_updL f (0 : Int32).toNatClampNeg z.toInt64)) := by
  obtain ⟨u, h4, rfl⟩ := on4_inv h
  refine ev_startH ok_L_bears (by decide +kernel) rfl rfl (Nat.le_of_ble_eq_true rfl) rfl ⟨rfl, rfl⟩ ?_
  refine ev_run (cs := []) (pc' := 4) (L' := [some (.ref 0), some (.int v1), some (.ref 140), none]) (st' := [.int v1, .ref 0, .int 0, .ref 140]) (w' := WL S f) [] 4 (by with_unfolding_all rfl) trivial ?_
  refine ev_callVp (as1 := [.int v1]) (rest := [.int 0, .ref 140]) (t_X4_bears F S.1 v1 (z, u) h4) rfl (WL4 S f) cv_X4_bears ml_L_85 rfl rfl rfl (Nat.le_of_ble_eq_true rfl) ⟨Nat.le_of_ble_eq_true rfl, Nat.le_of_ble_eq_true rfl⟩ ⟨Nat.le_refl _, Nat.le_refl _⟩ ?_ ?_
  · rintro r w ⟨rfl, rfl⟩; rfl
  rintro r w ⟨rfl, rfl⟩
  refine ev_nx (pc' := 7) (st' := [.int z, .int 0, .ref 140]) (w' := WL (m_X6_g u S) f) rfl rfl (WL4g S u f) rfl rfl ?_
  refine ev_run (cs := [vp_in 0 1]) (pc' := 16) (L' := [some (.ref 0), some (.int v1), some (.ref 140), none]) (st' := [.int 0]) (w' := WL (m_X6_g u S) (vp_updL f (0 : Int32).toNatClampNeg z.toInt64)) [] 4 (by with_unfolding_all rfl) (by show ¬ _; decide) ?_
  exact ev_exit ⟨_, _, rfl, ⟨rfl, Or.inl rfl⟩, ⟨rfl, rfl⟩, Nat.le_refl _, Nat.le_refl _⟩
set_option maxRecDepth 20000 in
theorem xL_bears_1 (F : Nat) (S : S_X6) (f : Nat → Int64) (v1 : Int32) (h : s_X4_bears_e F S.1 v1 = some 1) : ev_AH yL_bears mm_L_bears hh_L_bears [.ref 0, .int v1, .ref 140] (WL S f) (fun r w => r = some (.int 1) ∧ w = WL S f) := by
  refine ev_catchH (cl := 2) (as1 := [.int v1]) (rest := [.int 0, .ref 140]) (pci := 4) (idx := 85) (i := 3) (npc := 13) (Li := [some (.ref 0), some (.int v1), some (.ref 140), none]) ok_L_bears (by decide +kernel) rfl rfl (Nat.le_of_ble_eq_true rfl) rfl ⟨rfl, rfl⟩ rfl ?_ (th_X4_bears_1 F S.1 v1 h) cv_X4_bears (ev_has_in (k := 910) (by decide +kernel)) (by decide) rfl (WL4 S f) rfl (Nat.le_of_ble_eq_true rfl) ⟨by decide, by decide⟩ (by decide) [] ⟨0, 9, 12, 21⟩ [] rfl rfl rfl (fun z hz => absurd hz List.not_mem_nil) (by decide) (Or.inl ⟨3, by decide, rfl, rfl⟩) ?_
  · refine ev_run (cs := []) (pc' := 4) (L' := [some (.ref 0), some (.int v1), some (.ref 140), none]) (st' := [.int v1, .ref 0, .int 0, .ref 140]) (w' := WL S f) [] 4 (by with_unfolding_all rfl) trivial ?_
    exact ev_exit ⟨rfl, rfl, rfl, rfl, rfl, rfl⟩
  · refine ev_run (cs := []) (pc' := 14) (L' := [none, none, none, none]) (st' := [.int 1]) (w' := WL S f) [] 1 (by with_unfolding_all rfl) trivial ?_
    exact ev_exit ⟨_, _, rfl, ⟨rfl, Or.inl rfl⟩, ⟨rfl, rfl⟩, Nat.le_refl _, Nat.le_refl _⟩
