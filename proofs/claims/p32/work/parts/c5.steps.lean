/-! ===== the law's cells: the class, the engine's rows, their copies ===== -/
def WL8 (E C : S_XE) : List ev_E := [.inl (0, 12, .inl E.1), .inl (0, 48, .inl E.2.1), .inl (0, 28, .inl E.2.2.1), .inl (0, 64, .inl E.2.2.2), .inl (0, 12, .inl C.1), .inl (0, 48, .inl C.2.1), .inl (0, 28, .inl C.2.2.1), .inl (0, 64, .inl C.2.2.2)]
def WW (S : S_X6) (E C : S_XE) : List ev_E := W_X6 S ++ WL8 E C
theorem e_low (F : Nat) (x : Int32) {n : Nat} (h1 : 1 ≤ n) (h2 : n ≤ 100) : ∃ r, r < n ∧ s_L_low F x (nI n) = some (nI r) := by
  have e : x &&& 2147483647 = nI (x.toBitVec.toNat % 2147483648) := by
    apply Int32.toBitVec_inj.mp
    rw [Int32.toBitVec_and]
    apply BitVec.eq_of_toNat_eq
    rw [BitVec.toNat_and]
    show x.toBitVec.toNat &&& 2147483647 = (x.toBitVec.toNat % 2147483648) % 2 ^ 32
    rw [show (2147483647 : Nat) = 2 ^ 31 - 1 from rfl, Nat.and_two_pow_sub_one_eq_mod]
    omega
  refine ⟨(x.toBitVec.toNat % 2147483648) % n, Nat.mod_lt _ (by omega), ?_⟩
  unfold s_L_low
  rw [if_pos (fun z => by have := (ni_eq (b := 0) (by omega) (by omega)).mp z; omega), e, ni_rem (by omega) (by omega)]
theorem ev_wg_sh (A B : List ev_E) (i : Nat) : ev_wg (A ++ B) (A.length + i) = ev_wg B i := by
  rw [ev_wg_eq, ev_wg_eq, List.getElem?_append_right (Nat.le_add_right _ _), Nat.add_sub_cancel_left]
theorem ev_ws_sh (A B : List ev_E) (i : Nat) (v : ev_E) : ev_ws (A ++ B) (A.length + i) v = A ++ ev_ws B i v := by
  rw [ev_ws_eq, ev_ws_eq, List.set_append_right _ _ (Nat.le_add_right _ _), Nat.add_sub_cancel_left]
theorem ev_pick_sh {A B : List ev_E} {em g : Nat → Nat} (n : Nat) : ∀ k, (∀ i, i < n → em (k + i) = A.length + g (k + i)) → ev_pick (A ++ B) em k n = ev_pick B g k n := by
  induction n with
  | zero => intro k _; rfl
  | succ n ih =>
    intro k h
    have h0 := h 0 (by omega)
    rw [Nat.add_zero] at h0
    have h1 := ih (k + 1) (fun i hi => by have := h (1 + i) (by omega); rw [← Nat.add_assoc] at this; exact this)
    unfold ev_pick
    rw [h0, ev_wg_sh, h1]
theorem ev_putm_sh {A : List ev_E} {em g : Nat → Nat} (l : List ev_E) : ∀ (B : List ev_E) (k : Nat), (∀ i, i < l.length → em (k + i) = A.length + g (k + i)) → l.map (ev_ren em) = l.map (ev_ren g) → ev_putm em (A ++ B) k l = A ++ ev_putm g B k l := by
  induction l with
  | nil => intro B k _ _; rfl
  | cons E l ih =>
    intro B k h hr
    have h0 := h 0 (by simp)
    rw [Nat.add_zero] at h0
    rw [List.map_cons, List.map_cons, List.cons.injEq] at hr
    rw [ev_putm, ev_putm, h0, ev_ws_sh, hr.1]
    exact ih _ (k + 1) (fun i hi => by have := h (1 + i) (by rw [List.length_cons]; omega); rw [← Nat.add_assoc] at this; exact this) hr.2
section LAWS
variable {p : Program} {l : Launch} {e : Env} {s : State} {m : MethodId} {b : Nat} {below : List Frame} {meth : Method} {c : Code} {D : va_G} {ct ad0 : Nat → Nat} {Ln : Nat} {xs : Nat → Int32}
/-- a static call on some of the law's cells -/
theorem LV_st {t : ev_T} (ho : ∀ nm, ev_OK (mL nm t)) (C0 : LC p l s m b meth c D ct ad0 Ln xs) (ps : List Nat) {μc : ev_M} {y : MethodName} {pc idx nx k x yy n : Nat} {v : Value} {L : ev_L} {st rest as1 : List Value} {w w2 wt wt2 : List ev_E} {kc ks : Nat} {z : Option Value}
    (hM : ev_A y μc none as1 wt (fun r v => r = z ∧ v = wt2)) (cv : ev_CS y μc n) (hl : ev_ml RL idx y) (hlk : ev_look t pc = some (.invokestatic idx, nx, k, x, yy, v)) (hst : (as1.map (ev_cv fun k => ps.getD k 0)).reverse ++ rest = st) (hn : as1.length = n) (hnl : wt.length = ps.length) (hsel : ev_pick w (fun k => ps.getD k 0) 0 wt.length = wt.map (ev_ren fun k => ps.getD k 0)) (hnd : ps.Nodup)
    (hW : Nat.ble (rest.map fun v => v.category).sum 8 = true) (hroom : Nat.ble (ev_fr μc + 1) 11 = true ∧ Nat.ble (8 + (ev_nL μc + 11) + ev_lo μc) 470 = true) (h00 : ev_mc μc = 0 ∧ ev_ms μc = 0) (hmc : kc ≤ 600130 ∧ ks ≤ 7301080) (hlen : wt2.length = wt.length) (hz : z.map (ev_cv fun k => ps.getD k 0) = z) (hp : ev_putm (fun k => ps.getD k 0) w 0 wt2 = w2)
    (kk : LV p l e s m b below meth c D ct ad0 (pc + 3) L (z.toList ++ rest) w2 kc ks) : LV p l e s m b below meth c D ct ad0 pc L st w kc ks := by
  refine LV_of ho C0 (X := fun a1 a2 a3 a4 a5 a6 => a1 = pc + 3 ∧ a2 = L ∧ a3 = z.toList ++ rest ∧ a4 = w2 ∧ a5 = kc ∧ a6 = ks) (ev_callL (μ := mL meth.name t) ps hM cv hl hlk hst hn hnl hsel hnd (Nat.le_of_ble_eq_true hW) ⟨Nat.le_of_ble_eq_true hroom.1, Nat.le_of_ble_eq_true hroom.2⟩ ⟨by rw [h00.1]; exact hmc.1, by rw [h00.2]; exact hmc.2⟩ (fun r w1 hp => by rw [hp.2]; exact hlen) (fun r w1 hq => ?_)) ?_
  · obtain ⟨rfl, rfl⟩ := hq
    rw [h00.1, h00.2]
    refine ev_exit ⟨rfl, rfl, ?_, hp, rfl, rfl⟩
    rw [hz]
  · intro _ _ _ _ _ _ hX
    obtain ⟨rfl, rfl, rfl, rfl, rfl, rfl⟩ := hX
    exact kk
theorem ev_putm_nil (em : Nat → Nat) (w : List ev_E) : ev_putm em w 0 [] = w := by
  cases w <;> rfl
theorem LV_low {t : ev_T} (ho : ∀ nm, ev_OK (mL nm t)) (C0 : LC p l s m b meth c D ct ad0 Ln xs) (n : Nat) {pc nx k x yy : Nat} {v : Value} {L : ev_L} {rest : List Value} {w : List ev_E} {kc ks : Nat} {a N : Int32} (hN : N = nI n) (h1 : Nat.ble 1 n = true) (h2 : Nat.ble n 100 = true) (hlk : ev_look t pc = some (.invokestatic 114, nx, k, x, yy, v)) (hW : Nat.ble (rest.map fun v => v.category).sum 8 = true) (hmc : kc ≤ 600130 ∧ ks ≤ 7301080)
    (kk : ∀ r, r < n → LV p l e s m b below meth c D ct ad0 (pc + 3) L (.int (nI r) :: rest) w kc ks) : LV p l e s m b below meth c D ct ad0 pc L (.int N :: .int a :: rest) w kc ks := by
  subst hN
  obtain ⟨r, hr, h⟩ := e_low 6401 a (Nat.le_of_ble_eq_true h1) (Nat.le_of_ble_eq_true h2)
  exact LV_st ho C0 [] (z := some (.int (nI r))) (wt := []) (wt2 := []) (t_L_low 6401 a (nI n) _ h) cs_L_low ml_L_law_114 hlk rfl rfl rfl rfl List.nodup_nil hW ⟨rfl, rfl⟩ ⟨rfl, rfl⟩ hmc rfl rfl (ev_putm_nil _ w) (kk r hr)
theorem LV_lives {t : ev_T} (ho : ∀ nm, ev_OK (mL nm t)) (C0 : LC p l s m b meth c D ct ad0 Ln xs) {pc nx k x yy a : Nat} {v : Value} {L : ev_L} {rest : List Value} {S : S_X6} {E C : S_XE} {kc ks : Nat} (ha : a < 6) (hlk : ev_look t pc = some (.invokestatic 24, nx, k, x, yy, v)) (hW : Nat.ble (rest.map fun v => v.category).sum 8 = true) (hmc : kc ≤ 600130 ∧ ks ≤ 7301080)
    (kk : LV p l e s m b below meth c D ct ad0 (pc + 3) L (.int (ev_b (E.2.1 (8 * a) == 1)) :: rest) (WW S E C) kc ks) : LV p l e s m b below meth c D ct ad0 pc L (.ref 141 :: .int (nI a) :: rest) (WW S E C) kc ks :=
  LV_st ho C0 [141] (z := some (.int (ev_b (E.2.1 (8 * a) == 1)))) (wt := [.inl (0, 48, .inl E.2.1)]) (wt2 := [.inl (0, 48, .inl E.2.1)]) (t_L_lives 6401 48 E.2.1 (nI a) _ (e_lives 6401 E.2.1 ha)) cs_L_lives ml_L_law_24 hlk rfl rfl rfl ((ev_pick_sh (A := W_X6 S) (B := WL8 E C) (g := fun k => [1].getD k 0) 1 0 (by rw [W6_len]; decide)).trans (by with_unfolding_all rfl)) (by decide) hW ⟨rfl, rfl⟩ ⟨rfl, rfl⟩ hmc rfl rfl ((ev_putm_sh (em := fun k => [141].getD k 0) (A := W_X6 S) (g := fun k => [1].getD k 0) ([.inl (0, 48, .inl E.2.1)]) (WL8 E C) 0 (by rw [W6_len]; show ∀ i : Nat, i < 1 → [141].getD (0 + i) 0 = 140 + [1].getD (0 + i) 0; decide) rfl).trans (congrArg (W_X6 S ++ ·) (by with_unfolding_all rfl))) kk
theorem LV_report {t : ev_T} (ho : ∀ nm, ev_OK (mL nm t)) (C0 : LC p l s m b meth c D ct ad0 Ln xs) {F : Nat} {pc nx k x yy : Nat} {v : Value} {L : ev_L} {S : S_X6} {E C : S_XE} {u : S_XQ} {kc ks : Nat} {a d : Int32} (h : s_L_report F (E.1, E.2.2.2) a d = some u) (hlk : ev_look t pc = some (.invokestatic 30, nx, k, x, yy, v)) (hmc : kc ≤ 600130 ∧ ks ≤ 7301080)
    (kk : LV p l e s m b below meth c D ct ad0 (pc + 3) L [] (WW S (u.1, E.2.1, E.2.2.1, u.2) C) kc ks) : LV p l e s m b below meth c D ct ad0 pc L [.ref 143, .ref 140, .int d, .int a] (WW S E C) kc ks :=
  LV_st ho C0 [140, 143] (z := none) (rest := []) (wt := W_XQ (E.1, E.2.2.2)) (wt2 := W_XQ u) (t_L_report F (E.1, E.2.2.2) a d u h) cs_L_report ml_L_law_30 hlk rfl rfl rfl ((ev_pick_sh (A := W_X6 S) (B := WL8 E C) (g := fun k => [0, 3].getD k 0) 2 0 (by rw [W6_len]; decide)).trans (by with_unfolding_all rfl)) (by decide) rfl ⟨rfl, rfl⟩ ⟨rfl, rfl⟩ hmc rfl rfl ((ev_putm_sh (em := fun k => [140, 143].getD k 0) (A := W_X6 S) (g := fun k => [0, 3].getD k 0) (W_XQ u) (WL8 E C) 0 (by rw [W6_len]; show ∀ i : Nat, i < 2 → [140, 143].getD (0 + i) 0 = 140 + [0, 3].getD (0 + i) 0; decide) rfl).trans (congrArg (W_X6 S ++ ·) (by with_unfolding_all rfl))) kk
theorem LV_hear {t : ev_T} (ho : ∀ nm, ev_OK (mL nm t)) (C0 : LC p l s m b meth c D ct ad0 Ln xs) {F : Nat} {pc nx k x yy : Nat} {v : Value} {L : ev_L} {S : S_X6} {E E2 C : S_XE} {kc ks : Nat} (h : s_L_hear F E = some E2) (hlk : ev_look t pc = some (.invokestatic 48, nx, k, x, yy, v)) (hmc : kc ≤ 600130 ∧ ks ≤ 7301080)
    (kk : LV p l e s m b below meth c D ct ad0 (pc + 3) L [] (WW S E2 C) kc ks) : LV p l e s m b below meth c D ct ad0 pc L [.ref 143, .ref 142, .ref 141, .ref 140] (WW S E C) kc ks :=
  LV_st ho C0 [140, 141, 142, 143] (z := none) (rest := []) (wt := W_XE E) (wt2 := W_XE E2) (t_L_hear F E E2 h) cs_L_hear ml_L_law_48 hlk rfl rfl rfl ((ev_pick_sh (A := W_X6 S) (B := WL8 E C) (g := fun k => [0, 1, 2, 3].getD k 0) 4 0 (by rw [W6_len]; decide)).trans (by with_unfolding_all rfl)) (by decide) rfl ⟨rfl, rfl⟩ ⟨rfl, rfl⟩ hmc rfl rfl ((ev_putm_sh (em := fun k => [140, 141, 142, 143].getD k 0) (A := W_X6 S) (g := fun k => [0, 1, 2, 3].getD k 0) (W_XE E2) (WL8 E C) 0 (by rw [W6_len]; show ∀ i : Nat, i < 4 → [140, 141, 142, 143].getD (0 + i) 0 = 140 + [0, 1, 2, 3].getD (0 + i) 0; decide) rfl).trans (congrArg (W_X6 S ++ ·) (by with_unfolding_all rfl))) kk
theorem LV_tick {t : ev_T} (ho : ∀ nm, ev_OK (mL nm t)) (C0 : LC p l s m b meth c D ct ad0 Ln xs) {F : Nat} {pc nx k x yy : Nat} {v : Value} {L : ev_L} {S : S_X6} {E E2 C : S_XE} {kc ks : Nat} (h : s_L_tick F E = some E2) (hlk : ev_look t pc = some (.invokestatic 91, nx, k, x, yy, v)) (hmc : kc ≤ 600130 ∧ ks ≤ 7301080)
    (kk : LV p l e s m b below meth c D ct ad0 (pc + 3) L [] (WW S E2 C) kc ks) : LV p l e s m b below meth c D ct ad0 pc L [.ref 143, .ref 142, .ref 141, .ref 140] (WW S E C) kc ks :=
  LV_st ho C0 [140, 141, 142, 143] (z := none) (rest := []) (wt := W_XE E) (wt2 := W_XE E2) (t_L_tick F E E2 h) cs_L_tick ml_L_law_91 hlk rfl rfl rfl ((ev_pick_sh (A := W_X6 S) (B := WL8 E C) (g := fun k => [0, 1, 2, 3].getD k 0) 4 0 (by rw [W6_len]; decide)).trans (by with_unfolding_all rfl)) (by decide) rfl ⟨rfl, rfl⟩ ⟨rfl, rfl⟩ hmc rfl rfl ((ev_putm_sh (em := fun k => [140, 141, 142, 143].getD k 0) (A := W_X6 S) (g := fun k => [0, 1, 2, 3].getD k 0) (W_XE E2) (WL8 E C) 0 (by rw [W6_len]; show ∀ i : Nat, i < 4 → [140, 141, 142, 143].getD (0 + i) 0 = 140 + [0, 1, 2, 3].getD (0 + i) 0; decide) rfl).trans (congrArg (W_X6 S ++ ·) (by with_unfolding_all rfl))) kk
theorem LV_trial {t : ev_T} (ho : ∀ nm, ev_OK (mL nm t)) (C0 : LC p l s m b meth c D ct ad0 Ln xs) {F : Nat} {pc nx k x yy : Nat} {v : Value} {L : ev_L} {S : S_X6} {E E2 C : S_XE} {kc ks : Nat} (h : s_L_trial F E = some E2) (hlk : ev_look t pc = some (.invokestatic 52, nx, k, x, yy, v)) (hmc : kc ≤ 600130 ∧ ks ≤ 7301080)
    (kk : LV p l e s m b below meth c D ct ad0 (pc + 3) L [] (WW S E2 C) kc ks) : LV p l e s m b below meth c D ct ad0 pc L [.ref 143, .ref 142, .ref 141, .ref 140] (WW S E C) kc ks :=
  LV_st ho C0 [140, 141, 142, 143] (z := none) (rest := []) (wt := W_XE E) (wt2 := W_XE E2) (t_L_trial F E E2 h) cs_L_trial ml_L_law_52 hlk rfl rfl rfl ((ev_pick_sh (A := W_X6 S) (B := WL8 E C) (g := fun k => [0, 1, 2, 3].getD k 0) 4 0 (by rw [W6_len]; decide)).trans (by with_unfolding_all rfl)) (by decide) rfl ⟨rfl, rfl⟩ ⟨rfl, rfl⟩ hmc rfl rfl ((ev_putm_sh (em := fun k => [140, 141, 142, 143].getD k 0) (A := W_X6 S) (g := fun k => [0, 1, 2, 3].getD k 0) (W_XE E2) (WL8 E C) 0 (by rw [W6_len]; show ∀ i : Nat, i < 4 → [140, 141, 142, 143].getD (0 + i) 0 = 140 + [0, 1, 2, 3].getD (0 + i) 0; decide) rfl).trans (congrArg (W_X6 S ++ ·) (by with_unfolding_all rfl))) kk
/-- a call of the class -/
theorem LV_six {t : ev_T} (ho : ∀ nm, ev_OK (mL nm t)) (C0 : LC p l s m b meth c D ct ad0 Ln xs) {μc : ev_M} {y : MethodName} {pc idx nx k x yy n : Nat} {v : Value} {L : ev_L} {st rest as1 : List Value} {S S' : S_X6} {E C : S_XE} {kc ks : Nat} {z : Value}
    (hM : ev_A y μc none (.ref 0 :: as1) (W_X6 S) (fun r v => r = some z ∧ v = W_X6 S')) (cv : ev_CV y μc 4 n) (hl : ev_ml RL idx y) (hlk : ev_look t pc = some (.invokevirtual idx, nx, k, x, yy, v)) (hst : as1.reverse ++ (.ref 0 :: rest) = st) (hn : as1.length = n) (hW : Nat.ble (rest.map fun v => v.category).sum 8 = true)
    (hroom : Nat.ble (ev_fr μc + 1) 11 = true ∧ Nat.ble (8 + (ev_nL μc + 11) + ev_lo μc) 470 = true) (h00 : ev_mc μc = 0 ∧ ev_ms μc = 0) (hmc : kc ≤ 600130 ∧ ks ≤ 7301080)
    (kk : LV p l e s m b below meth c D ct ad0 (pc + 3) L (z :: rest) (WW S' E C) kc ks) : LV p l e s m b below meth c D ct ad0 pc L st (WW S E C) kc ks := by
  refine LV_of ho C0 (X := fun a1 a2 a3 a4 a5 a6 => a1 = pc + 3 ∧ a2 = L ∧ a3 = z :: rest ∧ a4 = WW S' E C ∧ a5 = kc ∧ a6 = ks) (ev_callVp (μ := mL meth.name t) (as1 := as1) (rest := rest) (tl := WL8 E C) hM rfl rfl cv hl hlk hst hn (Nat.le_of_ble_eq_true hW) ⟨Nat.le_of_ble_eq_true hroom.1, Nat.le_of_ble_eq_true hroom.2⟩ ⟨by rw [h00.1]; exact hmc.1, by rw [h00.2]; exact hmc.2⟩ (fun r w1 hp => by rw [hp.2, W6_len, W6_len]) (fun r w1 hp => ?_)) ?_
  · obtain ⟨rfl, rfl⟩ := hp
    rw [h00.1, h00.2]
    exact ev_exit ⟨rfl, rfl, rfl, rfl, rfl, rfl⟩
  · intro _ _ _ _ _ _ hX
    obtain ⟨rfl, rfl, rfl, rfl, rfl, rfl⟩ := hX
    exact kk
/-- put or take -/
theorem LV_wrap {t : ev_T} (ho : ∀ nm, ev_OK (mL nm t)) (C0 : LC p l s m b meth c D ct ad0 Ln xs) {μc : ev_M} {yc : MethodName} {hh : List (Nat × Nat × Nat × Nat)} {pc idx nx k x yy n : Nat} {v : Value} {L : ev_L} {st rest as1 : List Value} {S S' : S_X6} {E C : S_XE} {kc ks : Nat} {z : Value}
    (hM : ev_AH yc μc hh as1 (W_X6 S) (fun r v => r = some z ∧ v = W_X6 S')) (cw : ev_CW yc μc hh n) (hl : Jvm.Cond.methodLink RL idx yc ∈ ev_WA) (hlk : ev_look t pc = some (.invokestatic idx, nx, k, x, yy, v)) (hst : as1.reverse ++ rest = st) (hn : as1.length = n) (hW : Nat.ble (rest.map fun v => v.category).sum 8 = true)
    (hroom : Nat.ble ((ev_rmH μc).frames + 1) 11 = true ∧ Nat.ble (8 + (ev_nL μc + 11) + (ev_rmH μc).locals) 470 = true) (hmc : kc + 1 ≤ 600130 ∧ ks + 6 ≤ 7301080)
    (kk : LV p l e s m b below meth c D ct ad0 (pc + 3) L (z :: rest) (WW S' E C) (kc + 1) (ks + 6)) : LV p l e s m b below meth c D ct ad0 pc L st (WW S E C) kc ks := by
  refine LV_callH ho C0 hM cw hl hlk (w := WW S E C) (wc := W_X6 S) (tl := WL8 E C) rfl hst hn hW hroom hmc (fun r w1 hp => by rw [hp.2, W6_len, W6_len]) (fun r w1 hp => ?_)
  obtain ⟨rfl, rfl⟩ := hp
  exact kk
/-- an int of the script -/
theorem LV_cell {t : ev_T} (ho : ∀ nm, ev_OK (mL nm t)) (C0 : LC p l s m b meth c D ct ad0 Ln xs) (hLn : Ln ≤ 2048) (a : Nat) {pc nx k x yy : Nat} {v : Value} {L : ev_L} {rest : List Value} {w : List ev_E} {kc ks : Nat} {N : Int32} (hN : N = nI a) (ha : a ≤ 100) (hlk : ev_look t pc = some (.invokestatic 110, nx, k, x, yy, v)) (hW : Nat.ble (rest.map fun v => v.category).sum 8 = true) (hmc : kc ≤ 600130 ∧ ks ≤ 7301080)
    (kk : LV p l e s m b below meth c D ct ad0 (pc + 3) L (.int (cw_sc Ln xs a) :: rest) w kc ks) : LV p l e s m b below meth c D ct ad0 pc L (.int N :: .ref 999 :: rest) w kc ks := by
  subst hN
  intro ad H locs ls I
  obtain ⟨⟨hok, hfix, hK, hA⟩, ⟨hX, hbl, h9⟩, -⟩ := C0
  obtain ⟨hP, hD, hS, hE, hL⟩ := I
  obtain ⟨hd, -, -⟩ := ev_use (μ := mL meth.name t) (ho _) hlk
  have I0 : ev_I0 (mL meth.name t) p room_1 s m #[Value.ref b] meth c D ct (LAq s) := ⟨ho _, hfix, hK, hA⟩
  have he : ad = ad0 := hE
  have hX2 : ∀ U : State, U.heap = H → s.WarmedH U.vm → va_X (ad 999) Ln xs U U.heap ∧ ad 999 < U.heap.size := fun U hU hWu => by
    rw [he, h9, hU]
    refine ⟨va_X.moved hWu.alike (hX.kept (hS.2.1 b hbl (Nat.not_le.mpr hbl))), Nat.lt_of_lt_of_le hbl hS.1⟩
  have hsel : ev_pick w (fun k => k) 0 ([] : List ev_E).length = ([] : List ev_E).map (ev_ren fun k => k) := rfl
  obtain ⟨hPc, hDc, hFc⟩ := ev_cut (em := fun k => k) (H := H) (locs := locs) (s := s) hP hD hA hS hsel (fun i _ j _ h => h)
  have hrun := ev_runS (l := l) (e := e) (below := below) (locs := locs) (H := H) (kc := kc) (ks := ks) (ls := ls) (pc := pc) (As := [Value.ref 999, .int (nI a)].map (ev_cv fun k => ad k)) (rest := rest.map (ev_cv ad)) I0 (a_cell hLn xs ha l D ct (fun k => ad k) H.size) cs_L_cell ml_L_law_110 ⟨Nat.le_of_ble_eq_true rfl, Nat.le_of_ble_eq_true rfl⟩ ⟨hmc.1, hmc.2⟩
    ⟨cw_blind, fun U hU hWu => ⟨⟨rfl, by rw [hU], by rw [hU]; exact hPc, va_K.moved hWu.alike hK, hDc⟩, hX2 U hU hWu⟩⟩ rfl hL.1 (by rw [ev_sum_cat]; exact Nat.le_of_ble_eq_true hW) hd
  refine ev_back hrun hS hFc hFc fun r w' ad' H1 locs1 hp hn' hP1 hD1 hz hk hS1 => ?_
  cases hn'
  obtain ⟨rfl, rfl⟩ := hp
  obtain ⟨hP2, hD2⟩ := ev_paste (em := fun k => k) hP hD hsel rfl hP1 hk
  rw [ev_putm_nil] at hP2 hD2
  exact kk ad H1 locs1 ls ⟨hP2, hD2, hS1, hE, hL⟩
end LAWS
