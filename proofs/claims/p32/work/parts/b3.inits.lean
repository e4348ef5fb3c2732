/-! ===== the constructors ===== -/
theorem w_oi2 : Jvm.Cond.instanceMethod Lib.objectInit ∈ ev_WA := ev_has_in (k := 43) (by decide +kernel)
theorem w_oi3 : Jvm.Cond.code Lib.objectInit ⟨#[0xb1]⟩ 1 none ∈ ev_WA := ev_has_in (k := 44) (by decide +kernel)
theorem w_oi_X0 : Jvm.Cond.methodLink RX0 3 Lib.objectInit ∈ ev_WA := ev_has_in (k := 56) (by decide +kernel)
theorem w_in_X0 : Jvm.Cond.instantiable (ev_R 0) (ev_N 0) ∈ ev_WA := ev_has_in (k := 52) (by decide +kernel)
theorem w_id_X0 : Jvm.Cond.initialized (ev_R 0) ∈ ev_WA := ev_has_in (k := 25) (by decide +kernel)
theorem df_X0 : ∀ j, j < ev_N 0 → defaultValue (ev_ty 0 j) = vp_V [.null] j := fun j hj => by
  match j, hj with
  | 0, _ => rfl
  | n + 1, h => exact absurd h (show ¬ n + 1 < 1 by omega)
theorem w_oi_X1 : Jvm.Cond.methodLink RX1 3 Lib.objectInit ∈ ev_WA := ev_has_in (k := 67) (by decide +kernel)
theorem w_in_X1 : Jvm.Cond.instantiable (ev_R 1) (ev_N 1) ∈ ev_WA := ev_has_in (k := 63) (by decide +kernel)
theorem w_id_X1 : Jvm.Cond.initialized (ev_R 1) ∈ ev_WA := ev_has_in (k := 26) (by decide +kernel)
theorem df_X1 : ∀ j, j < ev_N 1 → defaultValue (ev_ty 1 j) = vp_V [.int 0, .int 0, .null, .null, .null] j := fun j hj => by
  match j, hj with
  | 0, _ => rfl
  | 1, _ => rfl
  | 2, _ => rfl
  | 3, _ => rfl
  | 4, _ => rfl
  | n + 5, h => exact absurd h (show ¬ n + 5 < 5 by omega)
theorem w_oi_X2 : Jvm.Cond.methodLink RX2 3 Lib.objectInit ∈ ev_WA := ev_has_in (k := 153) (by decide +kernel)
theorem w_in_X2 : Jvm.Cond.instantiable (ev_R 2) (ev_N 2) ∈ ev_WA := ev_has_in (k := 149) (by decide +kernel)
theorem w_id_X2 : Jvm.Cond.initialized (ev_R 2) ∈ ev_WA := ev_has_in (k := 27) (by decide +kernel)
theorem df_X2 : ∀ j, j < ev_N 2 → defaultValue (ev_ty 2 j) = vp_V [.int 0, .null, .int 0, .null, .int 0] j := fun j hj => by
  match j, hj with
  | 0, _ => rfl
  | 1, _ => rfl
  | 2, _ => rfl
  | 3, _ => rfl
  | 4, _ => rfl
  | n + 5, h => exact absurd h (show ¬ n + 5 < 5 by omega)
theorem w_oi_X3 : Jvm.Cond.methodLink RX3 3 Lib.objectInit ∈ ev_WA := ev_has_in (k := 50) (by decide +kernel)
theorem w_in_X3 : Jvm.Cond.instantiable (ev_R 3) (ev_N 3) ∈ ev_WA := ev_has_in (k := 46) (by decide +kernel)
theorem w_id_X3 : Jvm.Cond.initialized (ev_R 3) ∈ ev_WA := ev_has_in (k := 24) (by decide +kernel)
theorem df_X3 : ∀ j, j < ev_N 3 → defaultValue (ev_ty 3 j) = vp_V [.int 0, .int 0, .int 0, .int 0, .int 0, .int 0, .int 0, .null, .null, .null, .null, .null, .null, .null, .null, .null, .null] j := fun j hj => by
  match j, hj with
  | 0, _ => rfl
  | 1, _ => rfl
  | 2, _ => rfl
  | 3, _ => rfl
  | 4, _ => rfl
  | 5, _ => rfl
  | 6, _ => rfl
  | 7, _ => rfl
  | 8, _ => rfl
  | 9, _ => rfl
  | 10, _ => rfl
  | 11, _ => rfl
  | 12, _ => rfl
  | 13, _ => rfl
  | 14, _ => rfl
  | 15, _ => rfl
  | 16, _ => rfl
  | n + 17, h => exact absurd h (show ¬ n + 17 < 17 by omega)
theorem w_oi_X4 : Jvm.Cond.methodLink RX4 3 Lib.objectInit ∈ ev_WA := ev_has_in (k := 42) (by decide +kernel)
theorem w_in_X4 : Jvm.Cond.instantiable (ev_R 4) (ev_N 4) ∈ ev_WA := ev_has_in (k := 38) (by decide +kernel)
theorem w_id_X4 : Jvm.Cond.initialized (ev_R 4) ∈ ev_WA := ev_has_in (k := 23) (by decide +kernel)
theorem df_X4 : ∀ j, j < ev_N 4 → defaultValue (ev_ty 4 j) = vp_V [.null, .null, .null, .null, .int 0, .null] j := fun j hj => by
  match j, hj with
  | 0, _ => rfl
  | 1, _ => rfl
  | 2, _ => rfl
  | 3, _ => rfl
  | 4, _ => rfl
  | 5, _ => rfl
  | n + 6, h => exact absurd h (show ¬ n + 6 < 6 by omega)
theorem w_int : Jvm.Cond.arrayClass .int ∈ ev_WA := ev_has_in (k := 61) (by decide +kernel)
theorem w_cl_X4_9 : Jvm.Cond.classLink RX4 9 (ev_R 3) ∈ ev_WA := ev_has_in (k := 45) (by decide +kernel)
theorem w_cl_X3_36 : Jvm.Cond.classLink RX3 36 (ev_R 0) ∈ ev_WA := ev_has_in (k := 51) (by decide +kernel)
theorem w_cl_X3_43 : Jvm.Cond.classLink RX3 43 (ev_R 1) ∈ ev_WA := ev_has_in (k := 62) (by decide +kernel)
theorem w_cl_X4_26 : Jvm.Cond.classLink RX4 26 (ev_R 2) ∈ ev_WA := ev_has_in (k := 148) (by decide +kernel)
theorem w_ml_X3_38 : Jvm.Cond.methodLink RX3 38 yX0_init ∈ ev_WA := ev_has_in (k := 53) (by decide +kernel)
theorem w_ml_X3_45 : Jvm.Cond.methodLink RX3 45 yX1_init ∈ ev_WA := ev_has_in (k := 64) (by decide +kernel)
theorem w_ml_X4_11 : Jvm.Cond.methodLink RX4 11 yX3_init ∈ ev_WA := ev_has_in (k := 47) (by decide +kernel)
theorem w_ml_X4_28 : Jvm.Cond.methodLink RX4 28 yX2_init ∈ ev_WA := ev_has_in (k := 150) (by decide +kernel)
def mn_X1_init : ev_M := (RX1, "<init>", cX1_init, 1, none, tb_X1_init, 1, 30, 3, 6048)
theorem on_X1_init : ev_OK mn_X1_init := ok_X1_init
theorem cn_X1_init : ev_CI yX1_init mn_X1_init 0 := ci_X1_init
set_option maxRecDepth 20000 in
set_option maxHeartbeats 4000000 in
theorem tn_X1_init : ev_A yX1_init mn_X1_init (some 1) [.ref 0] [.inr (1, [.int 0, .int 0, .null, .null, .null])] (fun r w => r = none ∧ w = W_X1 (0, 0, fun _ => 0, fun _ => 0, fun _ => 0)) := by
  refine ev_start on_X1_init (by decide +kernel) rfl rfl (Nat.le_of_ble_eq_true rfl) ?_
  refine ev_run (cs := []) (pc' := 1) (L' := [some (.ref 0)]) (st' := [.ref 0]) (w' := [.inr (1, [.int 0, .int 0, .null, .null, .null])]) [] 1 (by with_unfolding_all rfl) trivial ?_
  refine ev_objInit rfl w_oi_X1 w_oi2 w_oi3 rfl ⟨rfl, rfl⟩ ?_
  refine ev_nk (pc' := 4) (st' := []) (w' := [.inr (1, [.int 0, .int 0, .null, .null, .null])]) (kc' := 0) (ks' := 0) rfl rfl (by with_unfolding_all rfl) rfl rfl ?_
  refine ev_run (cs := []) (pc' := 8) (L' := [some (.ref 0)]) (st' := [.int 6000, .ref 0]) (w' := [.inr (1, [.int 0, .int 0, .null, .null, .null])]) [] 2 (by with_unfolding_all rfl) trivial ?_
  refine ev_new_int (N := 6000) rfl w_int (by decide +kernel) (by decide +kernel) rfl ⟨rfl, rfl⟩ 1 rfl rfl rfl rfl ⟨rfl, trivial⟩ ?_
  refine ev_nk (pc' := 10) (st' := [.ref 1, .ref 0]) (w' := [.inr (1, [.int 0, .int 0, .null, .null, .null]), .inl (0, 6000, .inl (fun _ => 0))]) (kc' := 1) (ks' := 6000) rfl rfl (by with_unfolding_all rfl) rfl rfl ?_
  refine ev_run (cs := []) (pc' := 16) (L' := [some (.ref 0)]) (st' := [.int 24, .ref 0]) (w' := [.inr (1, [.int 0, .int 0, .ref 1, .null, .null]), .inl (0, 6000, .inl (fun _ => 0))]) [] 3 (by with_unfolding_all rfl) trivial ?_
  refine ev_new_int (N := 24) rfl w_int (by decide +kernel) (by decide +kernel) rfl ⟨rfl, rfl⟩ 2 rfl rfl rfl rfl ⟨rfl, trivial, trivial⟩ ?_
  refine ev_nk (pc' := 18) (st' := [.ref 2, .ref 0]) (w' := [.inr (1, [.int 0, .int 0, .ref 1, .null, .null]), .inl (0, 6000, .inl (fun _ => 0)), .inl (0, 24, .inl (fun _ => 0))]) (kc' := 2) (ks' := 6024) rfl rfl (by with_unfolding_all rfl) rfl rfl ?_
  refine ev_run (cs := []) (pc' := 24) (L' := [some (.ref 0)]) (st' := [.int 24, .ref 0]) (w' := [.inr (1, [.int 0, .int 0, .ref 1, .ref 2, .null]), .inl (0, 6000, .inl (fun _ => 0)), .inl (0, 24, .inl (fun _ => 0))]) [] 3 (by with_unfolding_all rfl) trivial ?_
  refine ev_new_int (N := 24) rfl w_int (by decide +kernel) (by decide +kernel) rfl ⟨rfl, rfl⟩ 3 rfl rfl rfl rfl ⟨rfl, trivial, trivial, trivial⟩ ?_
  refine ev_nk (pc' := 26) (st' := [.ref 3, .ref 0]) (w' := [.inr (1, [.int 0, .int 0, .ref 1, .ref 2, .null]), .inl (0, 6000, .inl (fun _ => 0)), .inl (0, 24, .inl (fun _ => 0)), .inl (0, 24, .inl (fun _ => 0))]) (kc' := 3) (ks' := 6048) rfl rfl (by with_unfolding_all rfl) rfl rfl ?_
  refine ev_run (cs := []) (pc' := 29) (L' := [some (.ref 0)]) (st' := []) (w' := [.inr (1, [.int 0, .int 0, .ref 1, .ref 2, .ref 3]), .inl (0, 6000, .inl (fun _ => 0)), .inl (0, 24, .inl (fun _ => 0)), .inl (0, 24, .inl (fun _ => 0))]) [] 1 (by with_unfolding_all rfl) trivial ?_
  exact ev_exit ⟨_, _, rfl, ⟨rfl, rfl⟩, ⟨rfl, rfl⟩, Nat.le_of_ble_eq_true rfl, Nat.le_of_ble_eq_true rfl⟩
def mn_X2_init : ev_M := (RX2, "<init>", cX2_init, 1, none, tb_X2_init, 1, 30, 2, 63)
theorem on_X2_init : ev_OK mn_X2_init := ok_X2_init
theorem cn_X2_init : ev_CI yX2_init mn_X2_init 0 := ci_X2_init
set_option maxRecDepth 20000 in
set_option maxHeartbeats 4000000 in
theorem tn_X2_init : ev_A yX2_init mn_X2_init (some 1) [.ref 0] [.inr (2, [.int 0, .null, .int 0, .null, .int 0])] (fun r w => r = none ∧ w = W_X2 (0, 0, 0, fun _ => 0, fun _ => 0)) := by
  refine ev_start on_X2_init (by decide +kernel) rfl rfl (Nat.le_of_ble_eq_true rfl) ?_
  refine ev_run (cs := []) (pc' := 1) (L' := [some (.ref 0)]) (st' := [.ref 0]) (w' := [.inr (2, [.int 0, .null, .int 0, .null, .int 0])]) [] 1 (by with_unfolding_all rfl) trivial ?_
  refine ev_objInit rfl w_oi_X2 w_oi2 w_oi3 rfl ⟨rfl, rfl⟩ ?_
  refine ev_nk (pc' := 4) (st' := []) (w' := [.inr (2, [.int 0, .null, .int 0, .null, .int 0])]) (kc' := 0) (ks' := 0) rfl rfl (by with_unfolding_all rfl) rfl rfl ?_
  refine ev_run (cs := []) (pc' := 7) (L' := [some (.ref 0)]) (st' := [.int 60, .ref 0]) (w' := [.inr (2, [.int 0, .null, .int 0, .null, .int 0])]) [] 2 (by with_unfolding_all rfl) trivial ?_
  refine ev_new_int (N := 60) rfl w_int (by decide +kernel) (by decide +kernel) rfl ⟨rfl, rfl⟩ 1 rfl rfl rfl rfl ⟨rfl, trivial⟩ ?_
  refine ev_nk (pc' := 9) (st' := [.ref 1, .ref 0]) (w' := [.inr (2, [.int 0, .null, .int 0, .null, .int 0]), .inl (0, 60, .inl (fun _ => 0))]) (kc' := 1) (ks' := 60) rfl rfl (by with_unfolding_all rfl) rfl rfl ?_
  refine ev_run (cs := []) (pc' := 14) (L' := [some (.ref 0)]) (st' := [.int 3, .ref 0]) (w' := [.inr (2, [.int 0, .ref 1, .int 0, .null, .int 0]), .inl (0, 60, .inl (fun _ => 0))]) [] 3 (by with_unfolding_all rfl) trivial ?_
  refine ev_new_int (N := 3) rfl w_int (by decide +kernel) (by decide +kernel) rfl ⟨rfl, rfl⟩ 2 rfl rfl rfl rfl ⟨rfl, trivial, trivial⟩ ?_
  refine ev_nk (pc' := 16) (st' := [.ref 2, .ref 0]) (w' := [.inr (2, [.int 0, .ref 1, .int 0, .null, .int 0]), .inl (0, 60, .inl (fun _ => 0)), .inl (0, 3, .inl (fun _ => 0))]) (kc' := 2) (ks' := 63) rfl rfl (by with_unfolding_all rfl) rfl rfl ?_
  refine ev_run (cs := []) (pc' := 19) (L' := [some (.ref 0)]) (st' := []) (w' := [.inr (2, [.int 0, .ref 1, .int 0, .ref 2, .int 0]), .inl (0, 60, .inl (fun _ => 0)), .inl (0, 3, .inl (fun _ => 0))]) [] 1 (by with_unfolding_all rfl) trivial ?_
  exact ev_exit ⟨_, _, rfl, ⟨rfl, rfl⟩, ⟨rfl, rfl⟩, Nat.le_of_ble_eq_true rfl, Nat.le_of_ble_eq_true rfl⟩
def mn_X0_init : ev_M := (RX0, "<init>", cX0_init, 2, none, tb_X0_init, 1, 30, 1, 100)
theorem on_X0_init : ev_OK mn_X0_init := ok_X0_init
theorem cn_X0_init : ev_CI yX0_init mn_X0_init 0 := ci_X0_init
theorem lp_X0_init (n : Nat) : ∀ (i : Nat) (f : Nat → Int32), i + n = 100 → (∀ k, k < i → f k = -1) → ev_V mn_X0_init (some 1) (ev_XR mn_X0_init (fun r w => r = none ∧ ∃ u : S_X0, (∀ k, k < 100 → u k = -1) ∧ w = W_X0 u)) 14 [some (.ref 0), some (.int (nI i))] [] [.inr (0, [.ref 1]), .inl (0, 100, .inl f)] 1 100 := by
  induction n with
  | zero =>
    intro i f hi hf
    refine ev_run (cs := []) (pc' := 17) (L' := [some (.ref 0), some (.int (nI i))]) (st' := [.int 100, .int (nI i)]) (w' := [.inr (0, [.ref 1]), .inl (0, 100, .inl f)]) [] 2 (by with_unfolding_all rfl) trivial ?_
    have hi2 : i = 100 := by omega
    subst hi2
    refine ev_br rfl rfl (fun h => ?_) (fun h => absurd (by decide) h)
    exact ev_exit ⟨_, _, rfl, ⟨rfl, rfl⟩, ⟨rfl, f, hf, rfl⟩, Nat.le_of_ble_eq_true rfl, Nat.le_of_ble_eq_true rfl⟩
  | succ n ih =>
    intro i f hi hf
    refine ev_run (cs := []) (pc' := 17) (L' := [some (.ref 0), some (.int (nI i))]) (st' := [.int 100, .int (nI i)]) (w' := [.inr (0, [.ref 1]), .inl (0, 100, .inl f)]) [] 2 (by with_unfolding_all rfl) trivial ?_
    refine ev_br rfl rfl (fun h => absurd h (nI_ge (a := i) (b := 100) (by omega) (by omega))) (fun h => ?_)
    have e : (nI i).toNatClampNeg = i := nI_clamp (by omega)
    refine ev_run (cs := [vp_in (nI i) 100]) (pc' := 14) (L' := [some (.ref 0), some (.int (nI i + 1))]) (st' := []) (w' := [.inr (0, [.ref 1]), .inl (0, 100, .inl (upd f (nI i).toNatClampNeg (-1)))]) [14] 8 (by with_unfolding_all rfl) (vp_in_nI (by omega) (by omega)) ?_
    rw [nI_1]
    refine ih (i + 1) _ (by omega) (fun k hk => ?_)
    rw [e]
    unfold upd
    by_cases hki : k = i
    · rw [if_pos hki]
    · rw [if_neg hki]
      exact hf k (by omega)
set_option maxRecDepth 20000 in
set_option maxHeartbeats 4000000 in
theorem tn_X0_init : ev_A yX0_init mn_X0_init (some 1) [.ref 0] [.inr (0, [.null])] (fun r w => r = none ∧ ∃ u : S_X0, (∀ k, k < 100 → u k = -1) ∧ w = W_X0 u) := by
  refine ev_start on_X0_init (by decide +kernel) rfl rfl (Nat.le_of_ble_eq_true rfl) ?_
  refine ev_run (cs := []) (pc' := 1) (L' := [some (.ref 0), none]) (st' := [.ref 0]) (w' := [.inr (0, [.null])]) [] 1 (by with_unfolding_all rfl) trivial ?_
  refine ev_objInit rfl w_oi_X0 w_oi2 w_oi3 rfl ⟨rfl, rfl⟩ ?_
  refine ev_nk (pc' := 4) (st' := []) (w' := [.inr (0, [.null])]) (kc' := 0) (ks' := 0) rfl rfl (by with_unfolding_all rfl) rfl rfl ?_
  refine ev_run (cs := []) (pc' := 7) (L' := [some (.ref 0), none]) (st' := [.int 100, .ref 0]) (w' := [.inr (0, [.null])]) [] 2 (by with_unfolding_all rfl) trivial ?_
  refine ev_new_int (N := 100) rfl w_int (by decide +kernel) (by decide +kernel) rfl ⟨rfl, rfl⟩ 1 rfl rfl rfl rfl ⟨rfl, trivial⟩ ?_
  refine ev_nk (pc' := 9) (st' := [.ref 1, .ref 0]) (w' := [.inr (0, [.null]), .inl (0, 100, .inl (fun _ => 0))]) (kc' := 1) (ks' := 100) rfl rfl (by with_unfolding_all rfl) rfl rfl ?_
  refine ev_run (cs := []) (pc' := 14) (L' := [some (.ref 0), some (.int 0)]) (st' := []) (w' := [.inr (0, [.ref 1]), .inl (0, 100, .inl (fun _ => 0))]) [] 3 (by with_unfolding_all rfl) trivial ?_
  exact lp_X0_init 100 0 _ rfl (fun k hk => absurd hk (Nat.not_lt_zero k))
def Z_X3 (u : S_X3) : Prop := a_X3_time u = 0 ∧ a_X3_things u = 0 ∧ a_X3_living u = 0 ∧ a_X3_suspects u = 0 ∧ a_X3_wronged u = 0 ∧ a_X3_ends u = 0 ∧ a_X3_slanderFound u = 0 ∧ (∀ i, i < 5 → a_X3_settings u i = s0_set i) ∧ (∀ t, a_X3_counts u t = 0) ∧ (∀ t, a_X3_endKinds u t = 0) ∧ (∀ k, k < 100 → a_X3_hold u k = -1) ∧ a_X1_heard (a_X3_rep u) = 0 ∧ a_X1_made (a_X3_rep u) = 0 ∧ (∀ t, a_X1_numbers (a_X3_rep u) t = 0) ∧ (∀ t, a_X1_sums (a_X3_rep u) t = 0)
def mn_X3_init : ev_M := (RX3, "<init>", cX3_init, 1, none, tb_X3_init, 2, 51, 14, 6327)
theorem on_X3_init : ev_OK mn_X3_init := ok_X3_init
theorem cn_X3_init : ev_CI yX3_init mn_X3_init 0 := ci_X3_init
set_option maxRecDepth 20000 in
set_option maxHeartbeats 4000000 in
theorem tn_X3_init : ev_A yX3_init mn_X3_init (some 1) [.ref 0] [.inr (3, [.int 0, .int 0, .int 0, .int 0, .int 0, .int 0, .int 0, .null, .null, .null, .null, .null, .null, .null, .null, .null, .null])] (fun r w => r = none ∧ ∃ u : S_X3, Z_X3 u ∧ w = W_X3 u) := by
  refine ev_start on_X3_init (by decide +kernel) rfl rfl (Nat.le_of_ble_eq_true rfl) ?_
  refine ev_run (cs := []) (pc' := 1) (L' := [some (.ref 0)]) (st' := [.ref 0]) (w' := [.inr (3, [.int 0, .int 0, .int 0, .int 0, .int 0, .int 0, .int 0, .null, .null, .null, .null, .null, .null, .null, .null, .null, .null])]) [] 1 (by with_unfolding_all rfl) trivial ?_
  refine ev_objInit rfl w_oi_X3 w_oi2 w_oi3 rfl ⟨rfl, rfl⟩ ?_
  refine ev_nk (pc' := 4) (st' := []) (w' := [.inr (3, [.int 0, .int 0, .int 0, .int 0, .int 0, .int 0, .int 0, .null, .null, .null, .null, .null, .null, .null, .null, .null, .null])]) (kc' := 0) (ks' := 0) rfl rfl (by with_unfolding_all rfl) rfl rfl ?_
  refine ev_run (cs := []) (pc' := 6) (L' := [some (.ref 0)]) (st' := [.int 5, .ref 0]) (w' := [.inr (3, [.int 0, .int 0, .int 0, .int 0, .int 0, .int 0, .int 0, .null, .null, .null, .null, .null, .null, .null, .null, .null, .null])]) [] 2 (by with_unfolding_all rfl) trivial ?_
  refine ev_new_int (N := 5) rfl w_int (by decide +kernel) (by decide +kernel) rfl ⟨rfl, rfl⟩ 1 rfl rfl rfl rfl ⟨rfl, trivial⟩ ?_
  refine ev_nk (pc' := 8) (st' := [.ref 1, .ref 0]) (w' := [.inr (3, [.int 0, .int 0, .int 0, .int 0, .int 0, .int 0, .int 0, .null, .null, .null, .null, .null, .null, .null, .null, .null, .null]), .inl (0, 5, .inl (fun _ => 0))]) (kc' := 1) (ks' := 5) rfl rfl (by with_unfolding_all rfl) rfl rfl ?_
  refine ev_run (cs := [vp_in 0 5, vp_in 1 5, vp_in 2 5, vp_in 3 5, vp_in 4 5]) (pc' := 34) (L' := [some (.ref 0)]) (st' := [.int 24, .ref 0]) (w' := [.inr (3, [.int 0, .int 0, .int 0, .int 0, .int 0, .int 0, .int 0, .ref 1, .null, .null, .null, .null, .null, .null, .null, .null, .null]), .inl (0, 5, .inl (upd (upd (upd (upd (upd (fun _ => 0) (0 : Int32).toNatClampNeg 1) (1 : Int32).toNatClampNeg 3) (2 : Int32).toNatClampNeg 2) (3 : Int32).toNatClampNeg 0) (4 : Int32).toNatClampNeg 0))]) [] 23 (by with_unfolding_all rfl) ⟨(by show ¬ _; decide), (by show ¬ _; decide), (by show ¬ _; decide), (by show ¬ _; decide), (by show ¬ _; decide)⟩ ?_
  refine ev_new_int (N := 24) rfl w_int (by decide +kernel) (by decide +kernel) rfl ⟨rfl, rfl⟩ 2 rfl rfl rfl rfl ⟨rfl, trivial, trivial⟩ ?_
  refine ev_nk (pc' := 36) (st' := [.ref 2, .ref 0]) (w' := [.inr (3, [.int 0, .int 0, .int 0, .int 0, .int 0, .int 0, .int 0, .ref 1, .null, .null, .null, .null, .null, .null, .null, .null, .null]), .inl (0, 5, .inl (upd (upd (upd (upd (upd (fun _ => 0) (0 : Int32).toNatClampNeg 1) (1 : Int32).toNatClampNeg 3) (2 : Int32).toNatClampNeg 2) (3 : Int32).toNatClampNeg 0) (4 : Int32).toNatClampNeg 0)), .inl (0, 24, .inl (fun _ => 0))]) (kc' := 2) (ks' := 29) rfl rfl (by with_unfolding_all rfl) rfl rfl ?_
  refine ev_run (cs := []) (pc' := 42) (L' := [some (.ref 0)]) (st' := [.int 24, .ref 0]) (w' := [.inr (3, [.int 0, .int 0, .int 0, .int 0, .int 0, .int 0, .int 0, .ref 1, .ref 2, .null, .null, .null, .null, .null, .null, .null, .null]), .inl (0, 5, .inl (upd (upd (upd (upd (upd (fun _ => 0) (0 : Int32).toNatClampNeg 1) (1 : Int32).toNatClampNeg 3) (2 : Int32).toNatClampNeg 2) (3 : Int32).toNatClampNeg 0) (4 : Int32).toNatClampNeg 0)), .inl (0, 24, .inl (fun _ => 0))]) [] 3 (by with_unfolding_all rfl) trivial ?_
  refine ev_new_int (N := 24) rfl w_int (by decide +kernel) (by decide +kernel) rfl ⟨rfl, rfl⟩ 3 rfl rfl rfl rfl ⟨rfl, trivial, trivial, trivial⟩ ?_
  refine ev_nk (pc' := 44) (st' := [.ref 3, .ref 0]) (w' := [.inr (3, [.int 0, .int 0, .int 0, .int 0, .int 0, .int 0, .int 0, .ref 1, .ref 2, .null, .null, .null, .null, .null, .null, .null, .null]), .inl (0, 5, .inl (upd (upd (upd (upd (upd (fun _ => 0) (0 : Int32).toNatClampNeg 1) (1 : Int32).toNatClampNeg 3) (2 : Int32).toNatClampNeg 2) (3 : Int32).toNatClampNeg 0) (4 : Int32).toNatClampNeg 0)), .inl (0, 24, .inl (fun _ => 0)), .inl (0, 24, .inl (fun _ => 0))]) (kc' := 3) (ks' := 53) rfl rfl (by with_unfolding_all rfl) rfl rfl ?_
  refine ev_run (cs := []) (pc' := 50) (L' := [some (.ref 0)]) (st' := [.int 24, .ref 0]) (w' := [.inr (3, [.int 0, .int 0, .int 0, .int 0, .int 0, .int 0, .int 0, .ref 1, .ref 2, .ref 3, .null, .null, .null, .null, .null, .null, .null]), .inl (0, 5, .inl (upd (upd (upd (upd (upd (fun _ => 0) (0 : Int32).toNatClampNeg 1) (1 : Int32).toNatClampNeg 3) (2 : Int32).toNatClampNeg 2) (3 : Int32).toNatClampNeg 0) (4 : Int32).toNatClampNeg 0)), .inl (0, 24, .inl (fun _ => 0)), .inl (0, 24, .inl (fun _ => 0))]) [] 3 (by with_unfolding_all rfl) trivial ?_
  refine ev_new_int (N := 24) rfl w_int (by decide +kernel) (by decide +kernel) rfl ⟨rfl, rfl⟩ 4 rfl rfl rfl rfl ⟨rfl, trivial, trivial, trivial, trivial⟩ ?_
  refine ev_nk (pc' := 52) (st' := [.ref 4, .ref 0]) (w' := [.inr (3, [.int 0, .int 0, .int 0, .int 0, .int 0, .int 0, .int 0, .ref 1, .ref 2, .ref 3, .null, .null, .null, .null, .null, .null, .null]), .inl (0, 5, .inl (upd (upd (upd (upd (upd (fun _ => 0) (0 : Int32).toNatClampNeg 1) (1 : Int32).toNatClampNeg 3) (2 : Int32).toNatClampNeg 2) (3 : Int32).toNatClampNeg 0) (4 : Int32).toNatClampNeg 0)), .inl (0, 24, .inl (fun _ => 0)), .inl (0, 24, .inl (fun _ => 0)), .inl (0, 24, .inl (fun _ => 0))]) (kc' := 4) (ks' := 77) rfl rfl (by with_unfolding_all rfl) rfl rfl ?_
  refine ev_run (cs := []) (pc' := 58) (L' := [some (.ref 0)]) (st' := [.int 24, .ref 0]) (w' := [.inr (3, [.int 0, .int 0, .int 0, .int 0, .int 0, .int 0, .int 0, .ref 1, .ref 2, .ref 3, .ref 4, .null, .null, .null, .null, .null, .null]), .inl (0, 5, .inl (upd (upd (upd (upd (upd (fun _ => 0) (0 : Int32).toNatClampNeg 1) (1 : Int32).toNatClampNeg 3) (2 : Int32).toNatClampNeg 2) (3 : Int32).toNatClampNeg 0) (4 : Int32).toNatClampNeg 0)), .inl (0, 24, .inl (fun _ => 0)), .inl (0, 24, .inl (fun _ => 0)), .inl (0, 24, .inl (fun _ => 0))]) [] 3 (by with_unfolding_all rfl) trivial ?_
  refine ev_new_int (N := 24) rfl w_int (by decide +kernel) (by decide +kernel) rfl ⟨rfl, rfl⟩ 5 rfl rfl rfl rfl ⟨rfl, trivial, trivial, trivial, trivial, trivial⟩ ?_
  refine ev_nk (pc' := 60) (st' := [.ref 5, .ref 0]) (w' := [.inr (3, [.int 0, .int 0, .int 0, .int 0, .int 0, .int 0, .int 0, .ref 1, .ref 2, .ref 3, .ref 4, .null, .null, .null, .null, .null, .null]), .inl (0, 5, .inl (upd (upd (upd (upd (upd (fun _ => 0) (0 : Int32).toNatClampNeg 1) (1 : Int32).toNatClampNeg 3) (2 : Int32).toNatClampNeg 2) (3 : Int32).toNatClampNeg 0) (4 : Int32).toNatClampNeg 0)), .inl (0, 24, .inl (fun _ => 0)), .inl (0, 24, .inl (fun _ => 0)), .inl (0, 24, .inl (fun _ => 0)), .inl (0, 24, .inl (fun _ => 0))]) (kc' := 5) (ks' := 101) rfl rfl (by with_unfolding_all rfl) rfl rfl ?_
  refine ev_run (cs := []) (pc' := 66) (L' := [some (.ref 0)]) (st' := [.int 24, .ref 0]) (w' := [.inr (3, [.int 0, .int 0, .int 0, .int 0, .int 0, .int 0, .int 0, .ref 1, .ref 2, .ref 3, .ref 4, .ref 5, .null, .null, .null, .null, .null]), .inl (0, 5, .inl (upd (upd (upd (upd (upd (fun _ => 0) (0 : Int32).toNatClampNeg 1) (1 : Int32).toNatClampNeg 3) (2 : Int32).toNatClampNeg 2) (3 : Int32).toNatClampNeg 0) (4 : Int32).toNatClampNeg 0)), .inl (0, 24, .inl (fun _ => 0)), .inl (0, 24, .inl (fun _ => 0)), .inl (0, 24, .inl (fun _ => 0)), .inl (0, 24, .inl (fun _ => 0))]) [] 3 (by with_unfolding_all rfl) trivial ?_
  refine ev_new_int (N := 24) rfl w_int (by decide +kernel) (by decide +kernel) rfl ⟨rfl, rfl⟩ 6 rfl rfl rfl rfl ⟨rfl, trivial, trivial, trivial, trivial, trivial, trivial⟩ ?_
  refine ev_nk (pc' := 68) (st' := [.ref 6, .ref 0]) (w' := [.inr (3, [.int 0, .int 0, .int 0, .int 0, .int 0, .int 0, .int 0, .ref 1, .ref 2, .ref 3, .ref 4, .ref 5, .null, .null, .null, .null, .null]), .inl (0, 5, .inl (upd (upd (upd (upd (upd (fun _ => 0) (0 : Int32).toNatClampNeg 1) (1 : Int32).toNatClampNeg 3) (2 : Int32).toNatClampNeg 2) (3 : Int32).toNatClampNeg 0) (4 : Int32).toNatClampNeg 0)), .inl (0, 24, .inl (fun _ => 0)), .inl (0, 24, .inl (fun _ => 0)), .inl (0, 24, .inl (fun _ => 0)), .inl (0, 24, .inl (fun _ => 0)), .inl (0, 24, .inl (fun _ => 0))]) (kc' := 6) (ks' := 125) rfl rfl (by with_unfolding_all rfl) rfl rfl ?_
  refine ev_run (cs := []) (pc' := 74) (L' := [some (.ref 0)]) (st' := [.int 24, .ref 0]) (w' := [.inr (3, [.int 0, .int 0, .int 0, .int 0, .int 0, .int 0, .int 0, .ref 1, .ref 2, .ref 3, .ref 4, .ref 5, .ref 6, .null, .null, .null, .null]), .inl (0, 5, .inl (upd (upd (upd (upd (upd (fun _ => 0) (0 : Int32).toNatClampNeg 1) (1 : Int32).toNatClampNeg 3) (2 : Int32).toNatClampNeg 2) (3 : Int32).toNatClampNeg 0) (4 : Int32).toNatClampNeg 0)), .inl (0, 24, .inl (fun _ => 0)), .inl (0, 24, .inl (fun _ => 0)), .inl (0, 24, .inl (fun _ => 0)), .inl (0, 24, .inl (fun _ => 0)), .inl (0, 24, .inl (fun _ => 0))]) [] 3 (by with_unfolding_all rfl) trivial ?_
  refine ev_new_int (N := 24) rfl w_int (by decide +kernel) (by decide +kernel) rfl ⟨rfl, rfl⟩ 7 rfl rfl rfl rfl ⟨rfl, trivial, trivial, trivial, trivial, trivial, trivial, trivial⟩ ?_
  refine ev_nk (pc' := 76) (st' := [.ref 7, .ref 0]) (w' := [.inr (3, [.int 0, .int 0, .int 0, .int 0, .int 0, .int 0, .int 0, .ref 1, .ref 2, .ref 3, .ref 4, .ref 5, .ref 6, .null, .null, .null, .null]), .inl (0, 5, .inl (upd (upd (upd (upd (upd (fun _ => 0) (0 : Int32).toNatClampNeg 1) (1 : Int32).toNatClampNeg 3) (2 : Int32).toNatClampNeg 2) (3 : Int32).toNatClampNeg 0) (4 : Int32).toNatClampNeg 0)), .inl (0, 24, .inl (fun _ => 0)), .inl (0, 24, .inl (fun _ => 0)), .inl (0, 24, .inl (fun _ => 0)), .inl (0, 24, .inl (fun _ => 0)), .inl (0, 24, .inl (fun _ => 0)), .inl (0, 24, .inl (fun _ => 0))]) (kc' := 7) (ks' := 149) rfl rfl (by with_unfolding_all rfl) rfl rfl ?_
  refine ev_run (cs := []) (pc' := 82) (L' := [some (.ref 0)]) (st' := [.int 24, .ref 0]) (w' := [.inr (3, [.int 0, .int 0, .int 0, .int 0, .int 0, .int 0, .int 0, .ref 1, .ref 2, .ref 3, .ref 4, .ref 5, .ref 6, .ref 7, .null, .null, .null]), .inl (0, 5, .inl (upd (upd (upd (upd (upd (fun _ => 0) (0 : Int32).toNatClampNeg 1) (1 : Int32).toNatClampNeg 3) (2 : Int32).toNatClampNeg 2) (3 : Int32).toNatClampNeg 0) (4 : Int32).toNatClampNeg 0)), .inl (0, 24, .inl (fun _ => 0)), .inl (0, 24, .inl (fun _ => 0)), .inl (0, 24, .inl (fun _ => 0)), .inl (0, 24, .inl (fun _ => 0)), .inl (0, 24, .inl (fun _ => 0)), .inl (0, 24, .inl (fun _ => 0))]) [] 3 (by with_unfolding_all rfl) trivial ?_
  refine ev_new_int (N := 24) rfl w_int (by decide +kernel) (by decide +kernel) rfl ⟨rfl, rfl⟩ 8 rfl rfl rfl rfl ⟨rfl, trivial, trivial, trivial, trivial, trivial, trivial, trivial, trivial⟩ ?_
  refine ev_nk (pc' := 84) (st' := [.ref 8, .ref 0]) (w' := [.inr (3, [.int 0, .int 0, .int 0, .int 0, .int 0, .int 0, .int 0, .ref 1, .ref 2, .ref 3, .ref 4, .ref 5, .ref 6, .ref 7, .null, .null, .null]), .inl (0, 5, .inl (upd (upd (upd (upd (upd (fun _ => 0) (0 : Int32).toNatClampNeg 1) (1 : Int32).toNatClampNeg 3) (2 : Int32).toNatClampNeg 2) (3 : Int32).toNatClampNeg 0) (4 : Int32).toNatClampNeg 0)), .inl (0, 24, .inl (fun _ => 0)), .inl (0, 24, .inl (fun _ => 0)), .inl (0, 24, .inl (fun _ => 0)), .inl (0, 24, .inl (fun _ => 0)), .inl (0, 24, .inl (fun _ => 0)), .inl (0, 24, .inl (fun _ => 0)), .inl (0, 24, .inl (fun _ => 0))]) (kc' := 8) (ks' := 173) rfl rfl (by with_unfolding_all rfl) rfl rfl ?_
  refine ev_run (cs := []) (pc' := 88) (L' := [some (.ref 0)]) (st' := [.ref 0]) (w' := [.inr (3, [.int 0, .int 0, .int 0, .int 0, .int 0, .int 0, .int 0, .ref 1, .ref 2, .ref 3, .ref 4, .ref 5, .ref 6, .ref 7, .ref 8, .null, .null]), .inl (0, 5, .inl (upd (upd (upd (upd (upd (fun _ => 0) (0 : Int32).toNatClampNeg 1) (1 : Int32).toNatClampNeg 3) (2 : Int32).toNatClampNeg 2) (3 : Int32).toNatClampNeg 0) (4 : Int32).toNatClampNeg 0)), .inl (0, 24, .inl (fun _ => 0)), .inl (0, 24, .inl (fun _ => 0)), .inl (0, 24, .inl (fun _ => 0)), .inl (0, 24, .inl (fun _ => 0)), .inl (0, 24, .inl (fun _ => 0)), .inl (0, 24, .inl (fun _ => 0)), .inl (0, 24, .inl (fun _ => 0))]) [] 2 (by with_unfolding_all rfl) trivial ?_
  refine ev_make tn_X0_init (by decide) cn_X0_init rfl w_ml_X3_38 rfl rfl rfl w_cl_X3_36 w_in_X0 w_id_X0 df_X0 (fun _ => rfl) ⟨rfl, rfl⟩ ⟨rfl, rfl⟩ 9 rfl rfl rfl rfl ⟨rfl, trivial, trivial, trivial, trivial, trivial, trivial, trivial, trivial, trivial⟩ rfl (fun r w h => h.1) ?_
  rintro w ⟨-, u0, hu0, rfl⟩
  refine ev_nk (pc' := 95) (st' := [.ref 9, .ref 0]) (w' := [.inr (3, [.int 0, .int 0, .int 0, .int 0, .int 0, .int 0, .int 0, .ref 1, .ref 2, .ref 3, .ref 4, .ref 5, .ref 6, .ref 7, .ref 8, .null, .null]), .inl (0, 5, .inl (upd (upd (upd (upd (upd (fun _ => 0) (0 : Int32).toNatClampNeg 1) (1 : Int32).toNatClampNeg 3) (2 : Int32).toNatClampNeg 2) (3 : Int32).toNatClampNeg 0) (4 : Int32).toNatClampNeg 0)), .inl (0, 24, .inl (fun _ => 0)), .inl (0, 24, .inl (fun _ => 0)), .inl (0, 24, .inl (fun _ => 0)), .inl (0, 24, .inl (fun _ => 0)), .inl (0, 24, .inl (fun _ => 0)), .inl (0, 24, .inl (fun _ => 0)), .inl (0, 24, .inl (fun _ => 0)), .inr (0, [.ref 10]), .inl (0, 100, .inl (u0))]) (kc' := 10) (ks' := 274) rfl rfl (by with_unfolding_all rfl) rfl rfl ?_
  refine ev_run (cs := []) (pc' := 99) (L' := [some (.ref 0)]) (st' := [.ref 0]) (w' := [.inr (3, [.int 0, .int 0, .int 0, .int 0, .int 0, .int 0, .int 0, .ref 1, .ref 2, .ref 3, .ref 4, .ref 5, .ref 6, .ref 7, .ref 8, .ref 9, .null]), .inl (0, 5, .inl (upd (upd (upd (upd (upd (fun _ => 0) (0 : Int32).toNatClampNeg 1) (1 : Int32).toNatClampNeg 3) (2 : Int32).toNatClampNeg 2) (3 : Int32).toNatClampNeg 0) (4 : Int32).toNatClampNeg 0)), .inl (0, 24, .inl (fun _ => 0)), .inl (0, 24, .inl (fun _ => 0)), .inl (0, 24, .inl (fun _ => 0)), .inl (0, 24, .inl (fun _ => 0)), .inl (0, 24, .inl (fun _ => 0)), .inl (0, 24, .inl (fun _ => 0)), .inl (0, 24, .inl (fun _ => 0)), .inr (0, [.ref 10]), .inl (0, 100, .inl (u0))]) [] 2 (by with_unfolding_all rfl) trivial ?_
  refine ev_make tn_X1_init (by decide) cn_X1_init rfl w_ml_X3_45 rfl rfl rfl w_cl_X3_43 w_in_X1 w_id_X1 df_X1 (fun _ => rfl) ⟨rfl, rfl⟩ ⟨rfl, rfl⟩ 11 rfl rfl rfl rfl ⟨rfl, trivial, trivial, trivial, trivial, trivial, trivial, trivial, trivial, rfl, trivial, trivial⟩ rfl (fun r w h => h.1) ?_
  rintro w ⟨-, rfl⟩
  refine ev_nk (pc' := 106) (st' := [.ref 11, .ref 0]) (w' := [.inr (3, [.int 0, .int 0, .int 0, .int 0, .int 0, .int 0, .int 0, .ref 1, .ref 2, .ref 3, .ref 4, .ref 5, .ref 6, .ref 7, .ref 8, .ref 9, .null]), .inl (0, 5, .inl (upd (upd (upd (upd (upd (fun _ => 0) (0 : Int32).toNatClampNeg 1) (1 : Int32).toNatClampNeg 3) (2 : Int32).toNatClampNeg 2) (3 : Int32).toNatClampNeg 0) (4 : Int32).toNatClampNeg 0)), .inl (0, 24, .inl (fun _ => 0)), .inl (0, 24, .inl (fun _ => 0)), .inl (0, 24, .inl (fun _ => 0)), .inl (0, 24, .inl (fun _ => 0)), .inl (0, 24, .inl (fun _ => 0)), .inl (0, 24, .inl (fun _ => 0)), .inl (0, 24, .inl (fun _ => 0)), .inr (0, [.ref 10]), .inl (0, 100, .inl (u0)), .inr (1, [.int 0, .int 0, .ref 12, .ref 13, .ref 14]), .inl (0, 6000, .inl (fun _ => 0)), .inl (0, 24, .inl (fun _ => 0)), .inl (0, 24, .inl (fun _ => 0))]) (kc' := 14) (ks' := 6327) rfl rfl (by with_unfolding_all rfl) rfl rfl ?_
  refine ev_run (cs := []) (pc' := 109) (L' := [some (.ref 0)]) (st' := []) (w' := [.inr (3, [.int 0, .int 0, .int 0, .int 0, .int 0, .int 0, .int 0, .ref 1, .ref 2, .ref 3, .ref 4, .ref 5, .ref 6, .ref 7, .ref 8, .ref 9, .ref 11]), .inl (0, 5, .inl (upd (upd (upd (upd (upd (fun _ => 0) (0 : Int32).toNatClampNeg 1) (1 : Int32).toNatClampNeg 3) (2 : Int32).toNatClampNeg 2) (3 : Int32).toNatClampNeg 0) (4 : Int32).toNatClampNeg 0)), .inl (0, 24, .inl (fun _ => 0)), .inl (0, 24, .inl (fun _ => 0)), .inl (0, 24, .inl (fun _ => 0)), .inl (0, 24, .inl (fun _ => 0)), .inl (0, 24, .inl (fun _ => 0)), .inl (0, 24, .inl (fun _ => 0)), .inl (0, 24, .inl (fun _ => 0)), .inr (0, [.ref 10]), .inl (0, 100, .inl (u0)), .inr (1, [.int 0, .int 0, .ref 12, .ref 13, .ref 14]), .inl (0, 6000, .inl (fun _ => 0)), .inl (0, 24, .inl (fun _ => 0)), .inl (0, 24, .inl (fun _ => 0))]) [] 1 (by with_unfolding_all rfl) trivial ?_
  refine ev_exit ⟨_, _, rfl, ⟨rfl, rfl⟩, ⟨rfl, (0, 0, 0, 0, 0, 0, 0, upd (upd (upd (upd (upd (fun _ => 0) (0 : Int32).toNatClampNeg 1) (1 : Int32).toNatClampNeg 3) (2 : Int32).toNatClampNeg 2) (3 : Int32).toNatClampNeg 0) (4 : Int32).toNatClampNeg 0, fun _ => 0, fun _ => 0, fun _ => 0, fun _ => 0, fun _ => 0, fun _ => 0, fun _ => 0, u0, 0, 0, fun _ => 0, fun _ => 0, fun _ => 0), ⟨rfl, rfl, rfl, rfl, rfl, rfl, rfl, fun i hi => ?_, fun _ => rfl, fun _ => rfl, hu0, rfl, rfl, fun _ => rfl, fun _ => rfl⟩, rfl⟩, Nat.le_of_ble_eq_true rfl, Nat.le_of_ble_eq_true rfl⟩
  match i, hi with
  | 0, _ => rfl
  | 1, _ => rfl
  | 2, _ => rfl
  | 3, _ => rfl
  | 4, _ => rfl
