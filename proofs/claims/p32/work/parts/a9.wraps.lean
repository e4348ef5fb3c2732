/-! the law's put and take -/
def tb_L_put : ev_T := [(0, .aload_n 0, 1, 0, 0, 0, .null),
  (1, .iload_n 1, 2, 0, 1, 0, .null),
  (2, .iload_n 2, 3, 0, 2, 0, .null),
  (3, .iload_n 3, 4, 0, 3, 0, .null),
  (4, .invokevirtual 10, 7, 0, 0, 0, .null),
  (7, .ireturn, 8, 0, 0, 0, .null),
  (8, .astore 4, 10, 0, 4, 0, .null),
  (10, .bipush (-2), 12, 0, 0, 0, .int (-2)),
  (12, .ireturn, 13, 0, 0, 0, .null),
  (13, .astore 4, 15, 0, 4, 0, .null),
  (15, .bipush (-3), 17, 0, 0, 0, .int (-3)),
  (17, .ireturn, 18, 0, 0, 0, .null)]
def mm_L_put : ev_M := (RL, "put", cL_put, 5, (some .int), tb_L_put, 7, 183, 0, 0)
set_option maxRecDepth 100000 in
theorem ok_L_put : ev_OK mm_L_put := by unfold ev_OK; decide +kernel
def tb_L_take : ev_T := [(0, .aload_n 0, 1, 0, 0, 0, .null),
  (1, .iload_n 1, 2, 0, 1, 0, .null),
  (2, .iload_n 2, 3, 0, 2, 0, .null),
  (3, .invokevirtual 20, 6, 0, 0, 0, .null),
  (6, .ireturn, 7, 0, 0, 0, .null),
  (7, .astore_n 3, 8, 0, 3, 0, .null),
  (8, .bipush (-2), 10, 0, 0, 0, .int (-2)),
  (10, .ireturn, 11, 0, 0, 0, .null),
  (11, .astore_n 3, 12, 0, 3, 0, .null),
  (12, .bipush (-3), 14, 0, 0, 0, .int (-3)),
  (14, .ireturn, 15, 0, 0, 0, .null)]
def mm_L_take : ev_M := (RL, "take", cL_take, 4, (some .int), tb_L_take, 7, 182, 0, 0)
set_option maxRecDepth 100000 in
theorem ok_L_take : ev_OK mm_L_take := by unfold ev_OK; decide +kernel
def hh_L_put : List (Nat × Nat × Nat × Nat) := [(0, 7, 8, 16), (0, 7, 13, 18)]
set_option maxRecDepth 20000 in
theorem rL_put (F : Nat) (S S' : S_X6) (v1 : Int32) (v2 : Int32) (v3 : Int32) (z : Int32) (h : s_X4_put_6 F S v1 v2 v3 = some (z, S')) : ev_AH yL_put mm_L_put hh_L_put [.ref 0, .int v1, .int v2, .int v3] (W_X6 S) (fun r w => r = some (.int z) ∧ w = W_X6 S') := by
  refine ev_startH ok_L_put (by decide +kernel) rfl rfl (Nat.le_of_ble_eq_true rfl) rfl ⟨rfl, rfl⟩ ?_
  refine ev_run (cs := []) (pc' := 4) (L' := [some (.ref 0), some (.int v1), some (.int v2), some (.int v3), none]) (st' := [.int v3, .int v2, .int v1, .ref 0]) (w' := W_X6 S) [] 4 (by with_unfolding_all rfl) trivial ?_
  refine ev_callVp (as1 := [.int v1, .int v2, .int v3]) (rest := []) (tl := []) (t_X4_put_6 F S v1 v2 v3 (z, S') h) rfl (List.append_nil _).symm cv_X4_put ml_L_10 rfl rfl rfl (Nat.le_of_ble_eq_true rfl) ⟨Nat.le_of_ble_eq_true rfl, Nat.le_of_ble_eq_true rfl⟩ ⟨Nat.le_refl _, Nat.le_refl _⟩ ?_ ?_
  · rintro r w ⟨rfl, rfl⟩
    rw [W6_len, W6_len]
  rintro r w ⟨rfl, rfl⟩
  rw [List.append_nil]
  exact ev_exit ⟨_, _, rfl, ⟨rfl, Or.inl rfl⟩, ⟨rfl, rfl⟩, Nat.le_refl _, Nat.le_refl _⟩
set_option maxRecDepth 20000 in
theorem xL_put (F : Nat) (S : S_X6) (v1 : Int32) (v2 : Int32) (v3 : Int32) (h : s_X4_put_e F S.1 v1 v2 v3 = some 2) : ev_AH yL_put mm_L_put hh_L_put [.ref 0, .int v1, .int v2, .int v3] (W_X6 S) (fun r w => r = some (.int (-3)) ∧ w = W_X6 S) := by
  refine ev_catchH (cl := 0) (as1 := [.int v1, .int v2, .int v3]) (rest := []) (pci := 4) (idx := 10) (i := 4) (npc := 15) (Li := [some (.ref 0), some (.int v1), some (.int v2), some (.int v3), none]) ok_L_put (by decide +kernel) rfl rfl (Nat.le_of_ble_eq_true rfl) rfl ⟨rfl, rfl⟩ rfl ?_ (th_X4_put_2 F S.1 v1 v2 v3 h) cv_X4_put (ev_has_in (k := 479) (by decide +kernel)) (by decide) rfl (tl := TL S.2.1 S.2.2) rfl rfl (Nat.le_of_ble_eq_true rfl) ⟨by decide, by decide⟩ (by decide) [⟨0, 7, 8, 16⟩] ⟨0, 7, 13, 18⟩ [] rfl rfl rfl (fun z hz => by
    simp only [List.mem_cons, List.not_mem_nil, or_false] at hz
    subst hz
    exact ⟨1, by decide, by decide, rfl⟩) (by decide) (Or.inr ⟨by decide, rfl⟩) ?_
  · refine ev_run (cs := []) (pc' := 4) (L' := [some (.ref 0), some (.int v1), some (.int v2), some (.int v3), none]) (st' := [.int v3, .int v2, .int v1, .ref 0]) (w' := W_X6 S) [] 4 (by with_unfolding_all rfl) trivial ?_
    exact ev_exit ⟨rfl, rfl, rfl, rfl, rfl, rfl⟩
  · refine ev_run (cs := []) (pc' := 17) (L' := [none, none, none, none, none]) (st' := [.int (-3)]) (w' := W_X6 S) [] 1 (by with_unfolding_all rfl) trivial ?_
    exact ev_exit ⟨_, _, rfl, ⟨rfl, Or.inl rfl⟩, ⟨rfl, rfl⟩, Nat.le_refl _, Nat.le_refl _⟩
def hh_L_take : List (Nat × Nat × Nat × Nat) := [(0, 6, 7, 16), (0, 6, 11, 18)]
set_option maxRecDepth 20000 in
theorem rL_take (F : Nat) (S S' : S_X6) (v1 : Int32) (v2 : Int32) (z : Int32) (h : s_X4_take_6 F S v1 v2 = some (z, S')) : ev_AH yL_take mm_L_take hh_L_take [.ref 0, .int v1, .int v2] (W_X6 S) (fun r w => r = some (.int z) ∧ w = W_X6 S') := by
  refine ev_startH ok_L_take (by decide +kernel) rfl rfl (Nat.le_of_ble_eq_true rfl) rfl ⟨rfl, rfl⟩ ?_
  refine ev_run (cs := []) (pc' := 3) (L' := [some (.ref 0), some (.int v1), some (.int v2), none]) (st' := [.int v2, .int v1, .ref 0]) (w' := W_X6 S) [] 3 (by with_unfolding_all rfl) trivial ?_
  refine ev_callVp (as1 := [.int v1, .int v2]) (rest := []) (tl := []) (t_X4_take_6 F S v1 v2 (z, S') h) rfl (List.append_nil _).symm cv_X4_take ml_L_20 rfl rfl rfl (Nat.le_of_ble_eq_true rfl) ⟨Nat.le_of_ble_eq_true rfl, Nat.le_of_ble_eq_true rfl⟩ ⟨Nat.le_refl _, Nat.le_refl _⟩ ?_ ?_
  · rintro r w ⟨rfl, rfl⟩
    rw [W6_len, W6_len]
  rintro r w ⟨rfl, rfl⟩
  rw [List.append_nil]
  exact ev_exit ⟨_, _, rfl, ⟨rfl, Or.inl rfl⟩, ⟨rfl, rfl⟩, Nat.le_refl _, Nat.le_refl _⟩
set_option maxRecDepth 20000 in
theorem xL_take (F : Nat) (S : S_X6) (v1 : Int32) (v2 : Int32) (h : s_X4_take_e F S.1 v1 v2 = some 2) : ev_AH yL_take mm_L_take hh_L_take [.ref 0, .int v1, .int v2] (W_X6 S) (fun r w => r = some (.int (-3)) ∧ w = W_X6 S) := by
  refine ev_catchH (cl := 0) (as1 := [.int v1, .int v2]) (rest := []) (pci := 3) (idx := 20) (i := 3) (npc := 12) (Li := [some (.ref 0), some (.int v1), some (.int v2), none]) ok_L_take (by decide +kernel) rfl rfl (Nat.le_of_ble_eq_true rfl) rfl ⟨rfl, rfl⟩ rfl ?_ (th_X4_take_2 F S.1 v1 v2 h) cv_X4_take (ev_has_in (k := 504) (by decide +kernel)) (by decide) rfl (tl := TL S.2.1 S.2.2) rfl rfl (Nat.le_of_ble_eq_true rfl) ⟨by decide, by decide⟩ (by decide) [⟨0, 6, 7, 16⟩] ⟨0, 6, 11, 18⟩ [] rfl rfl rfl (fun z hz => by
    simp only [List.mem_cons, List.not_mem_nil, or_false] at hz
    subst hz
    exact ⟨1, by decide, by decide, rfl⟩) (by decide) (Or.inl ⟨3, by decide, rfl, rfl⟩) ?_
  · refine ev_run (cs := []) (pc' := 3) (L' := [some (.ref 0), some (.int v1), some (.int v2), none]) (st' := [.int v2, .int v1, .ref 0]) (w' := W_X6 S) [] 3 (by with_unfolding_all rfl) trivial ?_
    exact ev_exit ⟨rfl, rfl, rfl, rfl, rfl, rfl⟩
  · refine ev_run (cs := []) (pc' := 14) (L' := [none, none, none, none]) (st' := [.int (-3)]) (w' := W_X6 S) [] 1 (by with_unfolding_all rfl) trivial ?_
    exact ev_exit ⟨_, _, rfl, ⟨rfl, Or.inl rfl⟩, ⟨rfl, rfl⟩, Nat.le_refl _, Nat.le_refl _⟩
