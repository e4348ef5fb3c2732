/-! ===== the constructor of the class ===== -/
theorem bW_T (u : S_X3) {b n : Nat} (h : Nat.ble (b + 15) n = true) : ev_bW n (TLw b u) := by
  have h1 := Nat.le_of_ble_eq_true h
  refine ⟨?_, trivial, trivial, trivial, trivial, trivial, trivial, trivial, trivial, ?_, trivial, ?_, trivial, trivial, trivial, trivial⟩
  · show (List.all [Value.int _, .int _, .int _, .int _, .int _, .int _, .int _, .ref (b + 1), .ref (b + 2), .ref (b + 3), .ref (b + 4), .ref (b + 5), .ref (b + 6), .ref (b + 7), .ref (b + 8), .ref (b + 9), .ref (b + 11)] (ev_bvb n)) = true
    simp only [List.all_cons, List.all_nil, ev_bvb, Nat.blt_eq, Bool.and_eq_true, Bool.true_and, Bool.and_true]
    omega
  · show (List.all [Value.ref (b + 10)] (ev_bvb n)) = true
    simp only [List.all_cons, List.all_nil, ev_bvb, Nat.blt_eq, Bool.and_true]
    omega
  · show (List.all [Value.int _, .int _, .ref (b + 12), .ref (b + 13), .ref (b + 14)] (ev_bvb n)) = true
    simp only [List.all_cons, List.all_nil, ev_bvb, Nat.blt_eq, Bool.and_eq_true, Bool.true_and, Bool.and_true]
    omega
theorem up_bd {f : Nat → Option Nat} {m n j c : Nat} (h : ∀ i b, f i = some b → b < m) (hm : Nat.ble m n = true) (hc : Nat.blt c n = true) : ∀ i b, va_up f j (some c) i = some b → b < n := by
  intro i b hb
  unfold va_up at hb
  split at hb
  · cases hb
    exact Nat.blt_eq.mp hc
  · exact Nat.lt_of_lt_of_le (h i b hb) (Nat.le_of_ble_eq_true hm)
theorem no_bd {n : Nat} : ∀ i b, (fun _ : Nat => (none : Option Nat)) i = some b → b < n := fun _ _ h => by cases h
theorem bW_T2 (u : S_X2) {b n : Nat} (h : Nat.ble (b + 3) n = true) : ev_bW n ((W_X2 u).map (ev_ren fun k => b + k)) := by
  have h1 := Nat.le_of_ble_eq_true h
  refine ⟨?_, trivial, trivial, trivial⟩
  show (List.all [Value.int _, .ref (b + 1), .int _, .ref (b + 2), .int _] (ev_bvb n)) = true
  simp only [List.all_cons, List.all_nil, ev_bvb, Nat.blt_eq, Bool.and_eq_true, Bool.true_and, Bool.and_true]
  omega
def mn_X4_init : ev_M := (RX4, "<init>", cX4_init, 2, none, tb_X4_init, 3, 71, 139, 57170)
theorem on_X4_init : ev_OK mn_X4_init := ok_X4_init
theorem cn_X4_init : ev_CI yX4_init mn_X4_init 0 := ci_X4_init
def pi6 (p : Nat) : Nat := p % 6
def Z_X6 (S : S_X6) : Prop := Z_X3 (a_X4_now S.1) ∧ a_X4_savedStates S.1 = 0 ∧ a_X2_length (a_X4_text S.1) = 0 ∧ PM S.2.2 ∧ ∀ p, S.2.2 p < 6
def sv6 (a b c d e f : S_X3) : Nat → S_X3
  | 0 => a
  | 1 => b
  | 2 => c
  | 3 => d
  | 4 => e
  | _ => f
/-- where a cell of the class stands as the constructor makes them -/
def em6 (k : Nat) : Nat := if k < 46 then k else if k < 49 then k + 91 else if k = 49 then 46 else k - 3
theorem em6_inj : ∀ i, i < 140 → ∀ j, j < 140 → em6 i = em6 j → i = j := by
  intro i hi j hj h
  unfold em6 at h
  repeat' (split at h)
  all_goals omega
theorem ev_pick_add {w : List ev_E} {em : Nat → Nat} (a : Nat) : ∀ (b k : Nat), (ev_pick w em k a).length = a → ev_pick w em k (a + b) = ev_pick w em k a ++ ev_pick w em (k + a) b := by
  induction a with
  | zero => intro b k _; rw [Nat.zero_add]; rfl
  | succ a ih =>
    intro b k h
    rw [show a + 1 + b = (a + b) + 1 by omega]
    rw [ev_pick] at h ⊢
    rw [ev_pick]
    split
    · next E hE =>
      rw [hE] at h
      rw [ih b (k + 1) (by simpa using h), show k + (a + 1) = k + 1 + a by omega]
      rfl
    · next hE =>
      rw [hE] at h
      simp at h
theorem pick6 (P T B : List ev_E) (c : ev_E) (h1 : P.length = 46) (h2 : T.length = 3) (h3 : B.length = 90) : ev_pick (P ++ (c :: (B ++ T))) em6 0 140 = P ++ (T ++ (c :: B)) := by
  have hw : (P ++ (c :: (B ++ T))).length = 140 := by simp only [List.length_append, List.length_cons, h1, h2, h3]
  have e1 : ev_pick (P ++ (c :: (B ++ T))) em6 0 46 = P := by
    rw [ev_pick_row _ 0 0 (fun i hi => by unfold em6; rw [if_pos (by omega)]) (by omega), List.drop_zero, ← h1, List.take_left]
  have e2 : ev_pick (P ++ (c :: (B ++ T))) em6 (0 + 46) 3 = T := by
    rw [ev_pick_row _ (0 + 46) 137 (fun i hi => by unfold em6; rw [if_neg (by omega), if_pos (by omega)]; omega) (by omega)]
    have e : P ++ (c :: (B ++ T)) = (P ++ (c :: B)) ++ T := by rw [List.append_assoc, List.cons_append]
    have hl : (P ++ (c :: B)).length = 137 := by simp only [List.length_append, List.length_cons, h1, h3]
    rw [e, ← hl, List.drop_left, ← h2, List.take_length]
  have e3 : ev_pick (P ++ (c :: (B ++ T))) em6 (0 + 46 + 3) 1 = [c] := by
    rw [ev_pick_row _ (0 + 46 + 3) 46 (fun i hi => by unfold em6; rw [if_neg (by omega), if_neg (by omega), if_pos (by omega)]; omega) (by omega), ← h1, List.drop_left]
    rfl
  have e4 : ev_pick (P ++ (c :: (B ++ T))) em6 (0 + 46 + 3 + 1) 90 = B := by
    rw [ev_pick_row _ (0 + 46 + 3 + 1) 47 (fun i hi => by unfold em6; rw [if_neg (by omega), if_neg (by omega), if_neg (by omega)]; omega) (by omega)]
    have e : P ++ (c :: (B ++ T)) = (P ++ [c]) ++ (B ++ T) := by rw [List.append_assoc]; rfl
    have hl : (P ++ [c]).length = 47 := by simp only [List.length_append, List.length_cons, List.length_nil, h1]
    rw [e, ← hl, List.drop_left, ← h3, List.take_left]
  rw [show (140 : Nat) = 46 + (3 + (1 + 90)) from rfl, ev_pick_add 46 _ 0 (by rw [e1]; exact h1), ev_pick_add 3 _ _ (by rw [e2]; exact h2), ev_pick_add 1 _ _ (by rw [e3]; rfl), e1, e2, e3, e4]
  rfl
theorem perm6 (u1 u2 u3 v0 v1 v2 v3 v4 v5 : S_X3) : ((W_X6 ((0, u1, u2, u3, (0, 0, 0, fun _ => 0, fun _ => 0)), sv6 v0 v1 v2 v3 v4 v5, pi6)).map (ev_ren em6)) = (.inr (4, [.ref 1, .ref 16, .ref 31, .ref 46, .int 0, .ref 137]) :: ((TLw 1 u1 ++ TLw 16 u2) ++ TLw 31 u3)) ++ ((W_X2 (0, 0, 0, fun _ => 0, fun _ => 0)).map (ev_ren fun k => 137 + k) ++ (.inl (2, 6, .inr (.inr (.inr (.inr (fun p => some (em6 (50 + 15 * pi6 p))))))) :: (((((TLw 47 v0 ++ TLw 62 v1) ++ TLw 77 v2) ++ TLw 92 v3) ++ TLw 107 v4) ++ TLw 122 v5))) := by
  have h1 : (W_X4 (0, u1, u2, u3, (0, 0, 0, fun _ => 0, fun _ => 0))).map (ev_ren em6) = (.inr (4, [.ref 1, .ref 16, .ref 31, .ref 46, .int 0, .ref 137]) :: ((TLw 1 u1 ++ TLw 16 u2) ++ TLw 31 u3)) ++ (W_X2 (0, 0, 0, fun _ => 0, fun _ => 0)).map (ev_ren fun k => 137 + k) := by with_unfolding_all rfl
  have h2 : (TL (sv6 v0 v1 v2 v3 v4 v5) (pi6)).map (ev_ren em6) = .inl (2, 6, .inr (.inr (.inr (.inr (fun p => some (em6 (50 + 15 * pi6 p))))))) :: (((((TLw 47 v0 ++ TLw 62 v1) ++ TLw 77 v2) ++ TLw 92 v3) ++ TLw 107 v4) ++ TLw 122 v5) := by with_unfolding_all rfl
  show (W_X4 (0, u1, u2, u3, (0, 0, 0, fun _ => 0, fun _ => 0)) ++ TL (sv6 v0 v1 v2 v3 v4 v5) (pi6)).map (ev_ren em6) = _
  rw [List.map_append, h1, h2, List.append_assoc]
theorem TLw_len (b : Nat) (u : S_X3) : (TLw b u).length = 15 := rfl
theorem PM_id : PM pi6 := ⟨⟨by decide, by decide, by decide, by decide, by decide, by decide⟩, fun i hi j hj h => by unfold pi6 at h; omega⟩

set_option maxRecDepth 20000 in
set_option maxHeartbeats 8000000 in
theorem iA_X4 : ev_V mn_X4_init (some 1) (fun pc L st w kc ks => ∃ u1 u2 u3, Z_X3 u1 ∧ pc = 40 ∧ L = [some (.ref 0), none] ∧ st = [.int 6, .ref 0] ∧ w = .inr (4, [.ref 1, .ref 16, .ref 31, .null, .int 0, .null]) :: ((TLw 1 u1 ++ TLw 16 u2) ++ TLw 31 u3) ∧ kc = 45 ∧ ks = 19032) 0 [some (.ref 0), none] [] [.inr (4, [.null, .null, .null, .null, .int 0, .null])] 0 0 := by
  refine ev_run (cs := []) (pc' := 1) (L' := [some (.ref 0), none]) (st' := [.ref 0]) (w' := .inr (4, [.null, .null, .null, .null, .int 0, .null]) :: ([] : List ev_E)) [] 1 (by with_unfolding_all rfl) trivial ?_
  refine ev_objInit rfl w_oi_X4 w_oi2 w_oi3 rfl ⟨rfl, rfl⟩ ?_
  refine ev_nk (pc' := 4) (st' := []) (w' := .inr (4, [.null, .null, .null, .null, .int 0, .null]) :: ([] : List ev_E)) (kc' := 0) (ks' := 0) rfl rfl (by with_unfolding_all rfl) rfl rfl ?_
  refine ev_run (cs := []) (pc' := 5) (L' := [some (.ref 0), none]) (st' := [.ref 0]) (w' := .inr (4, [.null, .null, .null, .null, .int 0, .null]) :: ([] : List ev_E)) [] 1 (by with_unfolding_all rfl) trivial ?_
  refine ev_make tn_X3_init (by decide) cn_X3_init rfl w_ml_X4_11 rfl rfl rfl w_cl_X4_9 w_in_X3 w_id_X3 df_X3 (fun _ => rfl) ⟨rfl, rfl⟩ ⟨rfl, rfl⟩ 1 (by with_unfolding_all rfl) rfl rfl rfl ⟨rfl, trivial⟩ rfl (fun r w h => h.1) ?_
  rintro w ⟨-, u1, z1, rfl⟩
  refine ev_nk (pc' := 12) (st' := [.ref 1, .ref 0]) (w' := .inr (4, [.null, .null, .null, .null, .int 0, .null]) :: TLw 1 u1) (kc' := 15) (ks' := 6344) rfl rfl (by with_unfolding_all rfl) rfl rfl ?_
  refine ev_run (cs := []) (pc' := 16) (L' := [some (.ref 0), none]) (st' := [.ref 0]) (w' := .inr (4, [.ref 1, .null, .null, .null, .int 0, .null]) :: TLw 1 u1) [] 2 (by with_unfolding_all rfl) trivial ?_
  refine ev_make tn_X3_init (by decide) cn_X3_init rfl w_ml_X4_11 rfl rfl rfl w_cl_X4_9 w_in_X3 w_id_X3 df_X3 (fun _ => rfl) ⟨rfl, rfl⟩ ⟨rfl, rfl⟩ 16 (by with_unfolding_all rfl) rfl rfl rfl ⟨rfl, bW_T u1 (n := 16) rfl⟩ rfl (fun r w h => h.1) ?_
  rintro w ⟨-, u2, -, rfl⟩
  refine ev_nk (pc' := 23) (st' := [.ref 16, .ref 0]) (w' := .inr (4, [.ref 1, .null, .null, .null, .int 0, .null]) :: (TLw 1 u1 ++ TLw 16 u2)) (kc' := 30) (ks' := 12688) rfl rfl (by with_unfolding_all rfl) rfl rfl ?_
  refine ev_run (cs := []) (pc' := 27) (L' := [some (.ref 0), none]) (st' := [.ref 0]) (w' := .inr (4, [.ref 1, .ref 16, .null, .null, .int 0, .null]) :: (TLw 1 u1 ++ TLw 16 u2)) [] 2 (by with_unfolding_all rfl) trivial ?_
  refine ev_make tn_X3_init (by decide) cn_X3_init rfl w_ml_X4_11 rfl rfl rfl w_cl_X4_9 w_in_X3 w_id_X3 df_X3 (fun _ => rfl) ⟨rfl, rfl⟩ ⟨rfl, rfl⟩ 31 (by with_unfolding_all rfl) rfl rfl rfl ⟨rfl, ev_bW_app (bW_T u1 (n := 31) rfl) (bW_T u2 (n := 31) rfl)⟩ rfl (fun r w h => h.1) ?_
  rintro w ⟨-, u3, -, rfl⟩
  refine ev_nk (pc' := 34) (st' := [.ref 31, .ref 0]) (w' := .inr (4, [.ref 1, .ref 16, .null, .null, .int 0, .null]) :: ((TLw 1 u1 ++ TLw 16 u2) ++ TLw 31 u3)) (kc' := 45) (ks' := 19032) rfl rfl (by with_unfolding_all rfl) rfl rfl ?_
  refine ev_run (cs := []) (pc' := 40) (L' := [some (.ref 0), none]) (st' := [.int 6, .ref 0]) (w' := .inr (4, [.ref 1, .ref 16, .ref 31, .null, .int 0, .null]) :: ((TLw 1 u1 ++ TLw 16 u2) ++ TLw 31 u3)) [] 3 (by with_unfolding_all rfl) trivial ?_
  exact ev_exit ⟨u1, u2, u3, z1, rfl, rfl, rfl, rfl, rfl, rfl⟩
theorem arrV_cg {cI : ClassId} {N : Nat} {f g : Nat → Value} (h : ∀ i, i < N → f i = g i) : arrV cI N f = arrV cI N g := by
  have e : (fun j : Fin N => f j.val) = (fun j : Fin N => g j.val) := funext fun j => h j.val j.isLt
  unfold arrV
  rw [e]
theorem ev_arx {μ : ev_M} {N0 : Option Nat} {X : ev_X} {pc : Nat} {L : ev_L} {st : List Value} {w : List ev_E} {kc ks q n : Nat} {f g : Nat → Option Nat} (hw : ev_wg w q = some (.inl (2, n, .inr (.inr (.inr (.inr f)))))) (hfg : ∀ i, i < n → f i = g i) (k : ev_V μ N0 X pc L st (ev_ws w q (.inl (2, n, .inr (.inr (.inr (.inr g)))))) kc ks) : ev_V μ N0 X pc L st w kc ks := by
  intro p l e R s m args below meth c D ct ad0 A Q h0 hx ad H locs ls I
  obtain ⟨hP, hD, hS, hE, hL⟩ := I
  rw [ev_wg_eq] at hw
  have hee : ∀ (j : Nat) (x : Nat × va_E), (ev_lay ad ct (ev_ws w q (.inl (2, n, .inr (.inr (.inr (.inr g)))))))[j]? = some x → ∃ y : Nat × va_E, (ev_lay ad ct w)[j]? = some y ∧ y.1 = x.1 ∧ (va_at D vwCl y H → va_at D vwCl x H) := by
    intro j x hx
    obtain ⟨E, h1, rfl⟩ := ev_lay_inv hx
    rw [ev_ws_eq, List.getElem?_set] at h1
    by_cases hj : q = j
    · subst hj
      rw [if_pos rfl] at h1
      split at h1
      · cases h1
        refine ⟨_, ev_lay_get hw, rfl, fun h => ?_⟩
        have h2 : H[ad q]? = some (vp_cell (ct 2) (n, .inr (.inr (.inr (.inr (fun i => (f i).map ad)))))) := h
        show H[ad q]? = some (vp_cell (ct 2) (n, .inr (.inr (.inr (.inr (fun i => (g i).map ad))))))
        rw [h2]
        refine congrArg some ?_
        rw [vp_cell_q, vp_cell_q]
        exact arrV_cg fun i hi => by rw [hfg i hi]
      · cases h1
    · rw [if_neg hj] at h1
      exact ⟨_, ev_lay_get h1, rfl, fun h => h⟩
  refine k p l e R s m args below meth c D ct ad0 A Q h0 hx ad H locs ls ⟨fun j x hx => ?_, ⟨fun i j a b hi hj hab => ?_, fun j x hx => ?_⟩, hS, hE, hL⟩
  · obtain ⟨y, h1, -, h3⟩ := hee j x hx
    exact h3 (hP j y h1)
  · obtain ⟨y, h1, h2, -⟩ := hee i a hi
    obtain ⟨z, h4, h5, -⟩ := hee j b hj
    exact hD.1 i j y z h1 h4 (by rw [h2, h5]; exact hab)
  · obtain ⟨y, h1, h2, -⟩ := hee j x hx
    rw [← h2]
    exact hD.2 j y h1
set_option maxRecDepth 20000 in
set_option maxHeartbeats 8000000 in
theorem iB_X4 (u1 u2 u3 : S_X3) (z1 : Z_X3 u1) : ev_V mn_X4_init (some 1) (ev_XR mn_X4_init (fun r w => r = none ∧ ∃ S : S_X6, Z_X6 S ∧ w = W_X6 S)) 43 [some (.ref 0), none] [.ref 46, .ref 0] (.inr (4, [.ref 1, .ref 16, .ref 31, .null, .int 0, .null]) :: (((TLw 1 u1 ++ TLw 16 u2) ++ TLw 31 u3) ++ [.inl (2, 6, .inr (.inr (.inr (.inr (fun _ => none)))))])) 46 19038 := by
  refine ev_run (cs := []) (pc' := 46) (L' := [some (.ref 0), none]) (st' := []) (w' := .inr (4, [.ref 1, .ref 16, .ref 31, .ref 46, .int 0, .null]) :: (((TLw 1 u1 ++ TLw 16 u2) ++ TLw 31 u3) ++ [.inl (2, 6, .inr (.inr (.inr (.inr (fun _ => none)))))])) [] 1 (by with_unfolding_all rfl) trivial ?_
  refine ev_run (cs := []) (pc' := 51) (L' := [some (.ref 0), some (.int 0)]) (st' := [.int 6, .int 0]) (w' := .inr (4, [.ref 1, .ref 16, .ref 31, .ref 46, .int 0, .null]) :: (((TLw 1 u1 ++ TLw 16 u2) ++ TLw 31 u3) ++ [.inl (2, 6, .inr (.inr (.inr (.inr (fun _ => none)))))])) [] 4 (by with_unfolding_all rfl) trivial ?_
  refine ev_br rfl rfl (fun h => absurd h (by decide)) (fun _ => ?_)
  refine ev_run (cs := []) (pc' := 59) (L' := [some (.ref 0), some (.int 0)]) (st' := [.int 0, .ref 46]) (w' := .inr (4, [.ref 1, .ref 16, .ref 31, .ref 46, .int 0, .null]) :: (((TLw 1 u1 ++ TLw 16 u2) ++ TLw 31 u3) ++ [.inl (2, 6, .inr (.inr (.inr (.inr (fun _ => none)))))])) [] 3 (by with_unfolding_all rfl) trivial ?_
  refine ev_make tn_X3_init (by decide) cn_X3_init rfl w_ml_X4_11 rfl rfl rfl w_cl_X4_9 w_in_X3 w_id_X3 df_X3 (fun _ => rfl) ⟨rfl, rfl⟩ ⟨rfl, rfl⟩ 47 (by with_unfolding_all rfl) rfl rfl rfl ⟨rfl, ev_bW_app (ev_bW_app (ev_bW_app (bW_T u1 (n := 47) rfl) (bW_T u2 (n := 47) rfl)) (bW_T u3 (n := 47) rfl)) ⟨no_bd, trivial⟩⟩ rfl (fun r w h => h.1) ?_
  rintro w ⟨-, v0, -, rfl⟩
  refine ev_nk (pc' := 66) (st' := [.ref 47, .int 0, .ref 46]) (w' := .inr (4, [.ref 1, .ref 16, .ref 31, .ref 46, .int 0, .null]) :: ((((TLw 1 u1 ++ TLw 16 u2) ++ TLw 31 u3) ++ [.inl (2, 6, .inr (.inr (.inr (.inr (fun _ => none)))))]) ++ TLw 47 v0)) (kc' := 61) (ks' := 25382) rfl rfl (by with_unfolding_all rfl) rfl rfl ?_
  refine ev_aast (q := 46) (b := 47) (n := 6) rfl (by with_unfolding_all rfl) (by with_unfolding_all rfl) (by show ¬ _; decide) ?_
  refine ev_nk (pc' := 67) (st' := []) (w' := .inr (4, [.ref 1, .ref 16, .ref 31, .ref 46, .int 0, .null]) :: ((((TLw 1 u1 ++ TLw 16 u2) ++ TLw 31 u3) ++ [.inl (2, 6, .inr (.inr (.inr (.inr (va_up (fun _ => none) (0 : Int32).toNatClampNeg (some 47))))))]) ++ TLw 47 v0)) (kc' := 61) (ks' := 25382) rfl rfl (by with_unfolding_all rfl) rfl rfl ?_
  refine ev_run (cs := []) (pc' := 51) (L' := [some (.ref 0), some (.int 1)]) (st' := [.int 6, .int 1]) (w' := .inr (4, [.ref 1, .ref 16, .ref 31, .ref 46, .int 0, .null]) :: ((((TLw 1 u1 ++ TLw 16 u2) ++ TLw 31 u3) ++ [.inl (2, 6, .inr (.inr (.inr (.inr (va_up (fun _ => none) (0 : Int32).toNatClampNeg (some 47))))))]) ++ TLw 47 v0)) [] 4 (by with_unfolding_all rfl) trivial ?_
  refine ev_br rfl rfl (fun h => absurd h (by decide)) (fun _ => ?_)
  refine ev_run (cs := []) (pc' := 59) (L' := [some (.ref 0), some (.int 1)]) (st' := [.int 1, .ref 46]) (w' := .inr (4, [.ref 1, .ref 16, .ref 31, .ref 46, .int 0, .null]) :: ((((TLw 1 u1 ++ TLw 16 u2) ++ TLw 31 u3) ++ [.inl (2, 6, .inr (.inr (.inr (.inr (va_up (fun _ => none) (0 : Int32).toNatClampNeg (some 47))))))]) ++ TLw 47 v0)) [] 3 (by with_unfolding_all rfl) trivial ?_
  refine ev_make tn_X3_init (by decide) cn_X3_init rfl w_ml_X4_11 rfl rfl rfl w_cl_X4_9 w_in_X3 w_id_X3 df_X3 (fun _ => rfl) ⟨rfl, rfl⟩ ⟨rfl, rfl⟩ 62 (by with_unfolding_all rfl) rfl rfl rfl ⟨rfl, ev_bW_app (ev_bW_app (ev_bW_app (ev_bW_app (bW_T u1 (n := 62) rfl) (bW_T u2 (n := 62) rfl)) (bW_T u3 (n := 62) rfl)) ⟨(up_bd (m := 62) (n := 62) no_bd rfl rfl), trivial⟩) (bW_T v0 (n := 62) rfl)⟩ rfl (fun r w h => h.1) ?_
  rintro w ⟨-, v1, -, rfl⟩
  refine ev_nk (pc' := 66) (st' := [.ref 62, .int 1, .ref 46]) (w' := .inr (4, [.ref 1, .ref 16, .ref 31, .ref 46, .int 0, .null]) :: (((((TLw 1 u1 ++ TLw 16 u2) ++ TLw 31 u3) ++ [.inl (2, 6, .inr (.inr (.inr (.inr (va_up (fun _ => none) (0 : Int32).toNatClampNeg (some 47))))))]) ++ TLw 47 v0) ++ TLw 62 v1)) (kc' := 76) (ks' := 31726) rfl rfl (by with_unfolding_all rfl) rfl rfl ?_
  refine ev_aast (q := 46) (b := 62) (n := 6) rfl (by with_unfolding_all rfl) (by with_unfolding_all rfl) (by show ¬ _; decide) ?_
  refine ev_nk (pc' := 67) (st' := []) (w' := .inr (4, [.ref 1, .ref 16, .ref 31, .ref 46, .int 0, .null]) :: (((((TLw 1 u1 ++ TLw 16 u2) ++ TLw 31 u3) ++ [.inl (2, 6, .inr (.inr (.inr (.inr (va_up (va_up (fun _ => none) (0 : Int32).toNatClampNeg (some 47)) (1 : Int32).toNatClampNeg (some 62))))))]) ++ TLw 47 v0) ++ TLw 62 v1)) (kc' := 76) (ks' := 31726) rfl rfl (by with_unfolding_all rfl) rfl rfl ?_
  refine ev_run (cs := []) (pc' := 51) (L' := [some (.ref 0), some (.int 2)]) (st' := [.int 6, .int 2]) (w' := .inr (4, [.ref 1, .ref 16, .ref 31, .ref 46, .int 0, .null]) :: (((((TLw 1 u1 ++ TLw 16 u2) ++ TLw 31 u3) ++ [.inl (2, 6, .inr (.inr (.inr (.inr (va_up (va_up (fun _ => none) (0 : Int32).toNatClampNeg (some 47)) (1 : Int32).toNatClampNeg (some 62))))))]) ++ TLw 47 v0) ++ TLw 62 v1)) [] 4 (by with_unfolding_all rfl) trivial ?_
  refine ev_br rfl rfl (fun h => absurd h (by decide)) (fun _ => ?_)
  refine ev_run (cs := []) (pc' := 59) (L' := [some (.ref 0), some (.int 2)]) (st' := [.int 2, .ref 46]) (w' := .inr (4, [.ref 1, .ref 16, .ref 31, .ref 46, .int 0, .null]) :: (((((TLw 1 u1 ++ TLw 16 u2) ++ TLw 31 u3) ++ [.inl (2, 6, .inr (.inr (.inr (.inr (va_up (va_up (fun _ => none) (0 : Int32).toNatClampNeg (some 47)) (1 : Int32).toNatClampNeg (some 62))))))]) ++ TLw 47 v0) ++ TLw 62 v1)) [] 3 (by with_unfolding_all rfl) trivial ?_
  refine ev_make tn_X3_init (by decide) cn_X3_init rfl w_ml_X4_11 rfl rfl rfl w_cl_X4_9 w_in_X3 w_id_X3 df_X3 (fun _ => rfl) ⟨rfl, rfl⟩ ⟨rfl, rfl⟩ 77 (by with_unfolding_all rfl) rfl rfl rfl ⟨rfl, ev_bW_app (ev_bW_app (ev_bW_app (ev_bW_app (ev_bW_app (bW_T u1 (n := 77) rfl) (bW_T u2 (n := 77) rfl)) (bW_T u3 (n := 77) rfl)) ⟨(up_bd (m := 77) (n := 77) (up_bd (m := 77) (n := 77) no_bd rfl rfl) rfl rfl), trivial⟩) (bW_T v0 (n := 77) rfl)) (bW_T v1 (n := 77) rfl)⟩ rfl (fun r w h => h.1) ?_
  rintro w ⟨-, v2, -, rfl⟩
  refine ev_nk (pc' := 66) (st' := [.ref 77, .int 2, .ref 46]) (w' := .inr (4, [.ref 1, .ref 16, .ref 31, .ref 46, .int 0, .null]) :: ((((((TLw 1 u1 ++ TLw 16 u2) ++ TLw 31 u3) ++ [.inl (2, 6, .inr (.inr (.inr (.inr (va_up (va_up (fun _ => none) (0 : Int32).toNatClampNeg (some 47)) (1 : Int32).toNatClampNeg (some 62))))))]) ++ TLw 47 v0) ++ TLw 62 v1) ++ TLw 77 v2)) (kc' := 91) (ks' := 38070) rfl rfl (by with_unfolding_all rfl) rfl rfl ?_
  refine ev_aast (q := 46) (b := 77) (n := 6) rfl (by with_unfolding_all rfl) (by with_unfolding_all rfl) (by show ¬ _; decide) ?_
  refine ev_nk (pc' := 67) (st' := []) (w' := .inr (4, [.ref 1, .ref 16, .ref 31, .ref 46, .int 0, .null]) :: ((((((TLw 1 u1 ++ TLw 16 u2) ++ TLw 31 u3) ++ [.inl (2, 6, .inr (.inr (.inr (.inr (va_up (va_up (va_up (fun _ => none) (0 : Int32).toNatClampNeg (some 47)) (1 : Int32).toNatClampNeg (some 62)) (2 : Int32).toNatClampNeg (some 77))))))]) ++ TLw 47 v0) ++ TLw 62 v1) ++ TLw 77 v2)) (kc' := 91) (ks' := 38070) rfl rfl (by with_unfolding_all rfl) rfl rfl ?_
  refine ev_run (cs := []) (pc' := 51) (L' := [some (.ref 0), some (.int 3)]) (st' := [.int 6, .int 3]) (w' := .inr (4, [.ref 1, .ref 16, .ref 31, .ref 46, .int 0, .null]) :: ((((((TLw 1 u1 ++ TLw 16 u2) ++ TLw 31 u3) ++ [.inl (2, 6, .inr (.inr (.inr (.inr (va_up (va_up (va_up (fun _ => none) (0 : Int32).toNatClampNeg (some 47)) (1 : Int32).toNatClampNeg (some 62)) (2 : Int32).toNatClampNeg (some 77))))))]) ++ TLw 47 v0) ++ TLw 62 v1) ++ TLw 77 v2)) [] 4 (by with_unfolding_all rfl) trivial ?_
  refine ev_br rfl rfl (fun h => absurd h (by decide)) (fun _ => ?_)
  refine ev_run (cs := []) (pc' := 59) (L' := [some (.ref 0), some (.int 3)]) (st' := [.int 3, .ref 46]) (w' := .inr (4, [.ref 1, .ref 16, .ref 31, .ref 46, .int 0, .null]) :: ((((((TLw 1 u1 ++ TLw 16 u2) ++ TLw 31 u3) ++ [.inl (2, 6, .inr (.inr (.inr (.inr (va_up (va_up (va_up (fun _ => none) (0 : Int32).toNatClampNeg (some 47)) (1 : Int32).toNatClampNeg (some 62)) (2 : Int32).toNatClampNeg (some 77))))))]) ++ TLw 47 v0) ++ TLw 62 v1) ++ TLw 77 v2)) [] 3 (by with_unfolding_all rfl) trivial ?_
  refine ev_make tn_X3_init (by decide) cn_X3_init rfl w_ml_X4_11 rfl rfl rfl w_cl_X4_9 w_in_X3 w_id_X3 df_X3 (fun _ => rfl) ⟨rfl, rfl⟩ ⟨rfl, rfl⟩ 92 (by with_unfolding_all rfl) rfl rfl rfl ⟨rfl, ev_bW_app (ev_bW_app (ev_bW_app (ev_bW_app (ev_bW_app (ev_bW_app (bW_T u1 (n := 92) rfl) (bW_T u2 (n := 92) rfl)) (bW_T u3 (n := 92) rfl)) ⟨(up_bd (m := 92) (n := 92) (up_bd (m := 92) (n := 92) (up_bd (m := 92) (n := 92) no_bd rfl rfl) rfl rfl) rfl rfl), trivial⟩) (bW_T v0 (n := 92) rfl)) (bW_T v1 (n := 92) rfl)) (bW_T v2 (n := 92) rfl)⟩ rfl (fun r w h => h.1) ?_
  rintro w ⟨-, v3, -, rfl⟩
  refine ev_nk (pc' := 66) (st' := [.ref 92, .int 3, .ref 46]) (w' := .inr (4, [.ref 1, .ref 16, .ref 31, .ref 46, .int 0, .null]) :: (((((((TLw 1 u1 ++ TLw 16 u2) ++ TLw 31 u3) ++ [.inl (2, 6, .inr (.inr (.inr (.inr (va_up (va_up (va_up (fun _ => none) (0 : Int32).toNatClampNeg (some 47)) (1 : Int32).toNatClampNeg (some 62)) (2 : Int32).toNatClampNeg (some 77))))))]) ++ TLw 47 v0) ++ TLw 62 v1) ++ TLw 77 v2) ++ TLw 92 v3)) (kc' := 106) (ks' := 44414) rfl rfl (by with_unfolding_all rfl) rfl rfl ?_
  refine ev_aast (q := 46) (b := 92) (n := 6) rfl (by with_unfolding_all rfl) (by with_unfolding_all rfl) (by show ¬ _; decide) ?_
  refine ev_nk (pc' := 67) (st' := []) (w' := .inr (4, [.ref 1, .ref 16, .ref 31, .ref 46, .int 0, .null]) :: (((((((TLw 1 u1 ++ TLw 16 u2) ++ TLw 31 u3) ++ [.inl (2, 6, .inr (.inr (.inr (.inr (va_up (va_up (va_up (va_up (fun _ => none) (0 : Int32).toNatClampNeg (some 47)) (1 : Int32).toNatClampNeg (some 62)) (2 : Int32).toNatClampNeg (some 77)) (3 : Int32).toNatClampNeg (some 92))))))]) ++ TLw 47 v0) ++ TLw 62 v1) ++ TLw 77 v2) ++ TLw 92 v3)) (kc' := 106) (ks' := 44414) rfl rfl (by with_unfolding_all rfl) rfl rfl ?_
  refine ev_run (cs := []) (pc' := 51) (L' := [some (.ref 0), some (.int 4)]) (st' := [.int 6, .int 4]) (w' := .inr (4, [.ref 1, .ref 16, .ref 31, .ref 46, .int 0, .null]) :: (((((((TLw 1 u1 ++ TLw 16 u2) ++ TLw 31 u3) ++ [.inl (2, 6, .inr (.inr (.inr (.inr (va_up (va_up (va_up (va_up (fun _ => none) (0 : Int32).toNatClampNeg (some 47)) (1 : Int32).toNatClampNeg (some 62)) (2 : Int32).toNatClampNeg (some 77)) (3 : Int32).toNatClampNeg (some 92))))))]) ++ TLw 47 v0) ++ TLw 62 v1) ++ TLw 77 v2) ++ TLw 92 v3)) [] 4 (by with_unfolding_all rfl) trivial ?_
  refine ev_br rfl rfl (fun h => absurd h (by decide)) (fun _ => ?_)
  refine ev_run (cs := []) (pc' := 59) (L' := [some (.ref 0), some (.int 4)]) (st' := [.int 4, .ref 46]) (w' := .inr (4, [.ref 1, .ref 16, .ref 31, .ref 46, .int 0, .null]) :: (((((((TLw 1 u1 ++ TLw 16 u2) ++ TLw 31 u3) ++ [.inl (2, 6, .inr (.inr (.inr (.inr (va_up (va_up (va_up (va_up (fun _ => none) (0 : Int32).toNatClampNeg (some 47)) (1 : Int32).toNatClampNeg (some 62)) (2 : Int32).toNatClampNeg (some 77)) (3 : Int32).toNatClampNeg (some 92))))))]) ++ TLw 47 v0) ++ TLw 62 v1) ++ TLw 77 v2) ++ TLw 92 v3)) [] 3 (by with_unfolding_all rfl) trivial ?_
  refine ev_make tn_X3_init (by decide) cn_X3_init rfl w_ml_X4_11 rfl rfl rfl w_cl_X4_9 w_in_X3 w_id_X3 df_X3 (fun _ => rfl) ⟨rfl, rfl⟩ ⟨rfl, rfl⟩ 107 (by with_unfolding_all rfl) rfl rfl rfl ⟨rfl, ev_bW_app (ev_bW_app (ev_bW_app (ev_bW_app (ev_bW_app (ev_bW_app (ev_bW_app (bW_T u1 (n := 107) rfl) (bW_T u2 (n := 107) rfl)) (bW_T u3 (n := 107) rfl)) ⟨(up_bd (m := 107) (n := 107) (up_bd (m := 107) (n := 107) (up_bd (m := 107) (n := 107) (up_bd (m := 107) (n := 107) no_bd rfl rfl) rfl rfl) rfl rfl) rfl rfl), trivial⟩) (bW_T v0 (n := 107) rfl)) (bW_T v1 (n := 107) rfl)) (bW_T v2 (n := 107) rfl)) (bW_T v3 (n := 107) rfl)⟩ rfl (fun r w h => h.1) ?_
  rintro w ⟨-, v4, -, rfl⟩
  refine ev_nk (pc' := 66) (st' := [.ref 107, .int 4, .ref 46]) (w' := .inr (4, [.ref 1, .ref 16, .ref 31, .ref 46, .int 0, .null]) :: ((((((((TLw 1 u1 ++ TLw 16 u2) ++ TLw 31 u3) ++ [.inl (2, 6, .inr (.inr (.inr (.inr (va_up (va_up (va_up (va_up (fun _ => none) (0 : Int32).toNatClampNeg (some 47)) (1 : Int32).toNatClampNeg (some 62)) (2 : Int32).toNatClampNeg (some 77)) (3 : Int32).toNatClampNeg (some 92))))))]) ++ TLw 47 v0) ++ TLw 62 v1) ++ TLw 77 v2) ++ TLw 92 v3) ++ TLw 107 v4)) (kc' := 121) (ks' := 50758) rfl rfl (by with_unfolding_all rfl) rfl rfl ?_
  refine ev_aast (q := 46) (b := 107) (n := 6) rfl (by with_unfolding_all rfl) (by with_unfolding_all rfl) (by show ¬ _; decide) ?_
  refine ev_nk (pc' := 67) (st' := []) (w' := .inr (4, [.ref 1, .ref 16, .ref 31, .ref 46, .int 0, .null]) :: ((((((((TLw 1 u1 ++ TLw 16 u2) ++ TLw 31 u3) ++ [.inl (2, 6, .inr (.inr (.inr (.inr (va_up (va_up (va_up (va_up (va_up (fun _ => none) (0 : Int32).toNatClampNeg (some 47)) (1 : Int32).toNatClampNeg (some 62)) (2 : Int32).toNatClampNeg (some 77)) (3 : Int32).toNatClampNeg (some 92)) (4 : Int32).toNatClampNeg (some 107))))))]) ++ TLw 47 v0) ++ TLw 62 v1) ++ TLw 77 v2) ++ TLw 92 v3) ++ TLw 107 v4)) (kc' := 121) (ks' := 50758) rfl rfl (by with_unfolding_all rfl) rfl rfl ?_
  refine ev_run (cs := []) (pc' := 51) (L' := [some (.ref 0), some (.int 5)]) (st' := [.int 6, .int 5]) (w' := .inr (4, [.ref 1, .ref 16, .ref 31, .ref 46, .int 0, .null]) :: ((((((((TLw 1 u1 ++ TLw 16 u2) ++ TLw 31 u3) ++ [.inl (2, 6, .inr (.inr (.inr (.inr (va_up (va_up (va_up (va_up (va_up (fun _ => none) (0 : Int32).toNatClampNeg (some 47)) (1 : Int32).toNatClampNeg (some 62)) (2 : Int32).toNatClampNeg (some 77)) (3 : Int32).toNatClampNeg (some 92)) (4 : Int32).toNatClampNeg (some 107))))))]) ++ TLw 47 v0) ++ TLw 62 v1) ++ TLw 77 v2) ++ TLw 92 v3) ++ TLw 107 v4)) [] 4 (by with_unfolding_all rfl) trivial ?_
  refine ev_br rfl rfl (fun h => absurd h (by decide)) (fun _ => ?_)
  refine ev_run (cs := []) (pc' := 59) (L' := [some (.ref 0), some (.int 5)]) (st' := [.int 5, .ref 46]) (w' := .inr (4, [.ref 1, .ref 16, .ref 31, .ref 46, .int 0, .null]) :: ((((((((TLw 1 u1 ++ TLw 16 u2) ++ TLw 31 u3) ++ [.inl (2, 6, .inr (.inr (.inr (.inr (va_up (va_up (va_up (va_up (va_up (fun _ => none) (0 : Int32).toNatClampNeg (some 47)) (1 : Int32).toNatClampNeg (some 62)) (2 : Int32).toNatClampNeg (some 77)) (3 : Int32).toNatClampNeg (some 92)) (4 : Int32).toNatClampNeg (some 107))))))]) ++ TLw 47 v0) ++ TLw 62 v1) ++ TLw 77 v2) ++ TLw 92 v3) ++ TLw 107 v4)) [] 3 (by with_unfolding_all rfl) trivial ?_
  refine ev_make tn_X3_init (by decide) cn_X3_init rfl w_ml_X4_11 rfl rfl rfl w_cl_X4_9 w_in_X3 w_id_X3 df_X3 (fun _ => rfl) ⟨rfl, rfl⟩ ⟨rfl, rfl⟩ 122 (by with_unfolding_all rfl) rfl rfl rfl ⟨rfl, ev_bW_app (ev_bW_app (ev_bW_app (ev_bW_app (ev_bW_app (ev_bW_app (ev_bW_app (ev_bW_app (bW_T u1 (n := 122) rfl) (bW_T u2 (n := 122) rfl)) (bW_T u3 (n := 122) rfl)) ⟨(up_bd (m := 122) (n := 122) (up_bd (m := 122) (n := 122) (up_bd (m := 122) (n := 122) (up_bd (m := 122) (n := 122) (up_bd (m := 122) (n := 122) no_bd rfl rfl) rfl rfl) rfl rfl) rfl rfl) rfl rfl), trivial⟩) (bW_T v0 (n := 122) rfl)) (bW_T v1 (n := 122) rfl)) (bW_T v2 (n := 122) rfl)) (bW_T v3 (n := 122) rfl)) (bW_T v4 (n := 122) rfl)⟩ rfl (fun r w h => h.1) ?_
  rintro w ⟨-, v5, -, rfl⟩
  refine ev_nk (pc' := 66) (st' := [.ref 122, .int 5, .ref 46]) (w' := .inr (4, [.ref 1, .ref 16, .ref 31, .ref 46, .int 0, .null]) :: (((((((((TLw 1 u1 ++ TLw 16 u2) ++ TLw 31 u3) ++ [.inl (2, 6, .inr (.inr (.inr (.inr (va_up (va_up (va_up (va_up (va_up (fun _ => none) (0 : Int32).toNatClampNeg (some 47)) (1 : Int32).toNatClampNeg (some 62)) (2 : Int32).toNatClampNeg (some 77)) (3 : Int32).toNatClampNeg (some 92)) (4 : Int32).toNatClampNeg (some 107))))))]) ++ TLw 47 v0) ++ TLw 62 v1) ++ TLw 77 v2) ++ TLw 92 v3) ++ TLw 107 v4) ++ TLw 122 v5)) (kc' := 136) (ks' := 57102) rfl rfl (by with_unfolding_all rfl) rfl rfl ?_
  refine ev_aast (q := 46) (b := 122) (n := 6) rfl (by with_unfolding_all rfl) (by with_unfolding_all rfl) (by show ¬ _; decide) ?_
  refine ev_nk (pc' := 67) (st' := []) (w' := .inr (4, [.ref 1, .ref 16, .ref 31, .ref 46, .int 0, .null]) :: (((((((((TLw 1 u1 ++ TLw 16 u2) ++ TLw 31 u3) ++ [.inl (2, 6, .inr (.inr (.inr (.inr (va_up (va_up (va_up (va_up (va_up (va_up (fun _ => none) (0 : Int32).toNatClampNeg (some 47)) (1 : Int32).toNatClampNeg (some 62)) (2 : Int32).toNatClampNeg (some 77)) (3 : Int32).toNatClampNeg (some 92)) (4 : Int32).toNatClampNeg (some 107)) (5 : Int32).toNatClampNeg (some 122))))))]) ++ TLw 47 v0) ++ TLw 62 v1) ++ TLw 77 v2) ++ TLw 92 v3) ++ TLw 107 v4) ++ TLw 122 v5)) (kc' := 136) (ks' := 57102) rfl rfl (by with_unfolding_all rfl) rfl rfl ?_
  refine ev_run (cs := []) (pc' := 51) (L' := [some (.ref 0), some (.int 6)]) (st' := [.int 6, .int 6]) (w' := .inr (4, [.ref 1, .ref 16, .ref 31, .ref 46, .int 0, .null]) :: (((((((((TLw 1 u1 ++ TLw 16 u2) ++ TLw 31 u3) ++ [.inl (2, 6, .inr (.inr (.inr (.inr (va_up (va_up (va_up (va_up (va_up (va_up (fun _ => none) (0 : Int32).toNatClampNeg (some 47)) (1 : Int32).toNatClampNeg (some 62)) (2 : Int32).toNatClampNeg (some 77)) (3 : Int32).toNatClampNeg (some 92)) (4 : Int32).toNatClampNeg (some 107)) (5 : Int32).toNatClampNeg (some 122))))))]) ++ TLw 47 v0) ++ TLw 62 v1) ++ TLw 77 v2) ++ TLw 92 v3) ++ TLw 107 v4) ++ TLw 122 v5)) [] 4 (by with_unfolding_all rfl) trivial ?_
  refine ev_br rfl rfl (fun _ => ?_) (fun h => absurd (by decide) h)
  refine ev_run (cs := []) (pc' := 74) (L' := [some (.ref 0), some (.int 6)]) (st' := [.ref 0]) (w' := .inr (4, [.ref 1, .ref 16, .ref 31, .ref 46, .int 0, .null]) :: (((((((((TLw 1 u1 ++ TLw 16 u2) ++ TLw 31 u3) ++ [.inl (2, 6, .inr (.inr (.inr (.inr (va_up (va_up (va_up (va_up (va_up (va_up (fun _ => none) (0 : Int32).toNatClampNeg (some 47)) (1 : Int32).toNatClampNeg (some 62)) (2 : Int32).toNatClampNeg (some 77)) (3 : Int32).toNatClampNeg (some 92)) (4 : Int32).toNatClampNeg (some 107)) (5 : Int32).toNatClampNeg (some 122))))))]) ++ TLw 47 v0) ++ TLw 62 v1) ++ TLw 77 v2) ++ TLw 92 v3) ++ TLw 107 v4) ++ TLw 122 v5)) [] 1 (by with_unfolding_all rfl) trivial ?_
  refine ev_make tn_X2_init (by decide) cn_X2_init rfl w_ml_X4_28 rfl rfl rfl w_cl_X4_26 w_in_X2 w_id_X2 df_X2 (fun _ => rfl) ⟨rfl, rfl⟩ ⟨rfl, rfl⟩ 137 (by with_unfolding_all rfl) rfl rfl rfl ⟨rfl, ev_bW_app (ev_bW_app (ev_bW_app (ev_bW_app (ev_bW_app (ev_bW_app (ev_bW_app (ev_bW_app (ev_bW_app (bW_T u1 (n := 137) rfl) (bW_T u2 (n := 137) rfl)) (bW_T u3 (n := 137) rfl)) ⟨(up_bd (m := 137) (n := 137) (up_bd (m := 137) (n := 137) (up_bd (m := 137) (n := 137) (up_bd (m := 137) (n := 137) (up_bd (m := 137) (n := 137) (up_bd (m := 137) (n := 137) no_bd rfl rfl) rfl rfl) rfl rfl) rfl rfl) rfl rfl) rfl rfl), trivial⟩) (bW_T v0 (n := 137) rfl)) (bW_T v1 (n := 137) rfl)) (bW_T v2 (n := 137) rfl)) (bW_T v3 (n := 137) rfl)) (bW_T v4 (n := 137) rfl)) (bW_T v5 (n := 137) rfl)⟩ rfl (fun r w h => h.1) ?_
  rintro w ⟨-, rfl⟩
  refine ev_nk (pc' := 81) (st' := [.ref 137, .ref 0]) (w' := .inr (4, [.ref 1, .ref 16, .ref 31, .ref 46, .int 0, .null]) :: ((((((((((TLw 1 u1 ++ TLw 16 u2) ++ TLw 31 u3) ++ [.inl (2, 6, .inr (.inr (.inr (.inr (va_up (va_up (va_up (va_up (va_up (va_up (fun _ => none) (0 : Int32).toNatClampNeg (some 47)) (1 : Int32).toNatClampNeg (some 62)) (2 : Int32).toNatClampNeg (some 77)) (3 : Int32).toNatClampNeg (some 92)) (4 : Int32).toNatClampNeg (some 107)) (5 : Int32).toNatClampNeg (some 122))))))]) ++ TLw 47 v0) ++ TLw 62 v1) ++ TLw 77 v2) ++ TLw 92 v3) ++ TLw 107 v4) ++ TLw 122 v5) ++ (W_X2 (0, 0, 0, fun _ => 0, fun _ => 0)).map (ev_ren fun k => 137 + k))) (kc' := 139) (ks' := 57170) rfl rfl (by with_unfolding_all rfl) rfl rfl ?_
  refine ev_run (cs := []) (pc' := 84) (L' := [some (.ref 0), some (.int 6)]) (st' := []) (w' := .inr (4, [.ref 1, .ref 16, .ref 31, .ref 46, .int 0, .ref 137]) :: ((((((((((TLw 1 u1 ++ TLw 16 u2) ++ TLw 31 u3) ++ [.inl (2, 6, .inr (.inr (.inr (.inr (va_up (va_up (va_up (va_up (va_up (va_up (fun _ => none) (0 : Int32).toNatClampNeg (some 47)) (1 : Int32).toNatClampNeg (some 62)) (2 : Int32).toNatClampNeg (some 77)) (3 : Int32).toNatClampNeg (some 92)) (4 : Int32).toNatClampNeg (some 107)) (5 : Int32).toNatClampNeg (some 122))))))]) ++ TLw 47 v0) ++ TLw 62 v1) ++ TLw 77 v2) ++ TLw 92 v3) ++ TLw 107 v4) ++ TLw 122 v5) ++ (W_X2 (0, 0, 0, fun _ => 0, fun _ => 0)).map (ev_ren fun k => 137 + k))) [] 1 (by with_unfolding_all rfl) trivial ?_
  refine ev_arx (q := 46) (n := 6) (g := fun p => some (em6 (50 + 15 * pi6 p))) (by with_unfolding_all rfl) (fun i hi => ?_) ?_
  · match i, hi with
    | 0, _ => rfl
    | 1, _ => rfl
    | 2, _ => rfl
    | 3, _ => rfl
    | 4, _ => rfl
    | 5, _ => rfl
  refine ev_nk (pc' := 84) (st' := []) (w' := .inr (4, [.ref 1, .ref 16, .ref 31, .ref 46, .int 0, .ref 137]) :: ((((((((((TLw 1 u1 ++ TLw 16 u2) ++ TLw 31 u3) ++ [.inl (2, 6, .inr (.inr (.inr (.inr (fun p => some (em6 (50 + 15 * pi6 p)))))))]) ++ TLw 47 v0) ++ TLw 62 v1) ++ TLw 77 v2) ++ TLw 92 v3) ++ TLw 107 v4) ++ TLw 122 v5) ++ (W_X2 (0, 0, 0, fun _ => 0, fun _ => 0)).map (ev_ren fun k => 137 + k))) (kc' := 139) (ks' := 57170) rfl rfl (by with_unfolding_all rfl) rfl rfl ?_
  refine ev_perm em6 (W_X6 ((0, u1, u2, u3, (0, 0, 0, fun _ => 0, fun _ => 0)), sv6 v0 v1 v2 v3 v4 v5, pi6)) [some (.ref 0), some (.int 6)] [] ?_ em6_inj (fun k hk => if_pos (by omega)) (fun i v hv => ?_) rfl ?_
  · refine Eq.trans ?_ (perm6 u1 u2 u3 v0 v1 v2 v3 v4 v5).symm
    refine Eq.trans (congrArg (fun z => ev_pick z em6 0 140) (?_ : _ = (.inr (4, [.ref 1, .ref 16, .ref 31, .ref 46, .int 0, .ref 137]) :: ((TLw 1 u1 ++ TLw 16 u2) ++ TLw 31 u3)) ++ (.inl (2, 6, .inr (.inr (.inr (.inr (fun p => some (em6 (50 + 15 * pi6 p))))))) :: ((((((TLw 47 v0 ++ TLw 62 v1) ++ TLw 77 v2) ++ TLw 92 v3) ++ TLw 107 v4) ++ TLw 122 v5) ++ (W_X2 (0, 0, 0, fun _ => 0, fun _ => 0)).map (ev_ren fun k => 137 + k))))) (pick6 _ _ _ _ ?_ ?_ ?_)
    · simp only [List.append_assoc, List.cons_append, List.nil_append]
    · simp only [List.length_cons, List.length_append, TLw_len]
    · rfl
    · simp only [List.length_append, TLw_len]
  · match i, hv with
    | 0, hv => cases hv; rfl
    | 1, hv => cases hv; rfl
    | _ + 2, hv => cases hv
  exact ev_exit ⟨_, _, rfl, ⟨rfl, rfl⟩, ⟨rfl, ((0, u1, u2, u3, (0, 0, 0, fun _ => 0, fun _ => 0)), sv6 v0 v1 v2 v3 v4 v5, pi6), ⟨z1, rfl, rfl, PM_id, fun p => Nat.mod_lt p (by decide)⟩, rfl⟩, Nat.le_of_ble_eq_true rfl, Nat.le_of_ble_eq_true rfl⟩
