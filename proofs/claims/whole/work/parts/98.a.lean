/-! ===== the law's cells: the class, the row out, the model ===== -/
def WMo (w : S_X5) : List ev_E := (W_X5 w).map (ev_ren fun k => 141 + k)
def WLW (S : S_X6) (f : Nat → Int64) (w : S_X5) : List ev_E := WL S f ++ WMo w
set_option maxRecDepth 20000 in
theorem WL_len (S : S_X6) (f : Nat → Int64) : (WL S f).length = 141 := by
  unfold WL
  rw [List.length_append, W6_len]
  rfl
theorem WM_len (w : S_X5) : (WMo w).length = 9 := rfl
theorem W_out (S : S_X6) (f : Nat → Int64) (w : S_X5) : ev_wg (WLW S f w) 140 = some (.inl (1, 1, .inr (.inl f))) := by
  rw [ev_wg_eq]
  unfold WLW
  rw [List.getElem?_append_left (by rw [WL_len]; omega)]
  unfold WL
  rw [List.getElem?_append_right (by rw [W6_len]; omega), W6_len]
  rfl
theorem WM_get (S : S_X6) (f : Nat → Int64) (w : S_X5) : ((WLW S f w).drop 141).take (W_X5 w).length = (W_X5 w).map (ev_ren fun k => 141 + k) := by
  have e1 : (WL S f ++ WMo w).drop 141 = WMo w := by rw [← WL_len S f, List.drop_left]
  unfold WLW
  rw [e1]
  show (WMo w).take (W_X5 w).length = WMo w
  exact List.take_of_length_le (by rw [WM_len]; exact Nat.le_refl _)
theorem WM_put (S : S_X6) (f : Nat → Int64) (w w' : S_X5) : ev_sput 141 (WLW S f w) ((W_X5 w').map (ev_ren fun k => 141 + k)) = WLW S f w' := by
  unfold ev_sput WLW
  have e1 : (WL S f ++ WMo w).take 141 = WL S f := by rw [← WL_len S f, List.take_left]
  have e2 : (WL S f ++ WMo w).drop (141 + ((W_X5 w').map (ev_ren fun k => 141 + k)).length) = [] := by
    refine List.drop_eq_nil_of_le ?_
    rw [List.length_append, WL_len, WM_len]
    exact Nat.le_refl _
  rw [e1, e2, List.append_nil]
  rfl
theorem lg_cmp_self (x : Int64) : lg_cmp x x = 0 := by
  unfold lg_cmp
  rw [if_neg Int64.lt_irrefl, if_pos rfl]
section LAWS
variable {p : Program} {l : Launch} {e : Env} {s : State} {m : MethodId} {b : Nat} {below : List Frame} {meth : Method} {c : Code} {D : va_G} {ct ad0 : Nat → Nat} {Ln : Nat} {xs : Nat → Int32}
theorem LV_lald {t : ev_T} (ho : ∀ nm, ev_OK (mL nm t)) (C : LC p l s m b meth c D ct ad0 Ln xs) {pc nx k x y : Nat} {v : Value} {L : ev_L} {rest : List Value} {S : S_X6} {f : Nat → Int64} {w : S_X5} {kc ks : Nat} (hlk : ev_look t pc = some (.laload, nx, k, x, y, v))
    (kk : LV p l e s m b below meth c D ct ad0 nx L (.long (f 0) :: rest) (WLW S f w) kc ks) : LV p l e s m b below meth c D ct ad0 pc L (.int 0 :: .ref 140 :: rest) (WLW S f w) kc ks :=
  LV_of ho C (ev_step1 (μ := mL meth.name t) (X := fun a1 a2 a3 a4 a5 a6 => a1 = nx ∧ a2 = L ∧ a3 = .long (f 0) :: rest ∧ a4 = WLW S f w ∧ a5 = kc ∧ a6 = ks) hlk (cs := [vp_in 0 1]) (pc' := nx) (L' := L) (st' := .long (f 0) :: rest) (w' := WLW S f w) (by
    show (match ev_wg (WLW S f w) 140 with
        | some (.inl (1, n, .inr (.inl f))) => some ([vp_in 0 n], nx, L, Value.long (f (0 : Int32).toNatClampNeg) :: rest, WLW S f w)
        | _ => none) = _
    rw [W_out]
    rfl) (by show ¬ _; decide) (ev_exit ⟨rfl, rfl, rfl, rfl, rfl, rfl⟩)) fun _ _ _ _ _ _ hX => by
    obtain ⟨rfl, rfl, rfl, rfl, rfl, rfl⟩ := hX
    exact kk
/-- a call of the model -/
theorem LV_model {t : ev_T} (ho : ∀ nm, ev_OK (mL nm t)) (C : LC p l s m b meth c D ct ad0 Ln xs) {μc : ev_M} {y : MethodName} {pc idx nx k x yy n : Nat} {v : Value} {L : ev_L} {st rest as1 : List Value} {S : S_X6} {f : Nat → Int64} {w w' : S_X5} {kc ks : Nat} {z : Value}
    (hM : ev_A y μc none (.ref 0 :: as1) (W_X5 w) (fun r v => r = some z ∧ v = W_X5 w')) (cv : ev_CV y μc 5 n) (hl : ev_ml RL idx y) (hlk : ev_look t pc = some (.invokevirtual idx, nx, k, x, yy, v)) (hst : (as1.map (ev_cv fun k => 141 + k)).reverse ++ (.ref 141 :: rest) = st) (hn : as1.length = n) (hW : Nat.ble (rest.map fun v => v.category).sum 8 = true)
    (hroom : Nat.ble (ev_fr μc + 1) 13 = true ∧ Nat.ble (8 + (ev_nL μc + 11) + ev_lo μc) 500 = true) (h00 : ev_mc μc = 0 ∧ ev_ms μc = 0) (hmc : kc ≤ 601024 ∧ ks ≤ 7293034) (hz : ev_cv (fun k => 141 + k) z = z)
    (kk : LV p l e s m b below meth c D ct ad0 (pc + 3) L (z :: rest) (WLW S f w') kc ks) : LV p l e s m b below meth c D ct ad0 pc L st (WLW S f w) kc ks := by
  refine LV_of ho C (X := fun a1 a2 a3 a4 a5 a6 => a1 = pc + 3 ∧ a2 = L ∧ a3 = z :: rest ∧ a4 = WLW S f w' ∧ a5 = kc ∧ a6 = ks) (ev_callV1 (μ := mL meth.name t) 141 hM cv hl hlk hst hn (by unfold WLW; rw [List.length_append, WL_len]; omega) (WM_get S f w) (Nat.le_of_ble_eq_true hW) ⟨Nat.le_of_ble_eq_true hroom.1, Nat.le_of_ble_eq_true hroom.2⟩ ⟨by rw [h00.1]; exact hmc.1, by rw [h00.2]; exact hmc.2⟩ (fun r w1 hp => by rw [hp.2]; rfl) (fun r w1 hp => ?_)) ?_
  · obtain ⟨rfl, rfl⟩ := hp
    rw [h00.1, h00.2]
    refine ev_exit ⟨rfl, rfl, ?_, WM_put S f w w', rfl, rfl⟩
    show ev_cv (fun k => 141 + k) z :: rest = _
    rw [hz]
  · intro _ _ _ _ _ _ hX
    obtain ⟨rfl, rfl, rfl, rfl, rfl, rfl⟩ := hX
    exact kk
theorem WLW6 (S : S_X6) (f : Nat → Int64) (w : S_X5) : WLW S f w = W_X6 S ++ (WLb f ++ WMo w) := by
  unfold WLW WL
  rw [List.append_assoc]
theorem WLW4 (S : S_X6) (f : Nat → Int64) (w : S_X5) : WLW S f w = W_X4 S.1 ++ (TL S.2.1 S.2.2 ++ (WLb f ++ WMo w)) := by
  rw [WLW6]
  show (W_X4 S.1 ++ TL S.2.1 S.2.2) ++ _ = _
  rw [List.append_assoc]
/-- a call of the class, over all of its cells -/
theorem LV_x6 {t : ev_T} (ho : ∀ nm, ev_OK (mL nm t)) (C : LC p l s m b meth c D ct ad0 Ln xs) {μc : ev_M} {y : MethodName} {pc idx nx k x yy : Nat} {v : Value} {L : ev_L} {rest : List Value} {S S' : S_X6} {f : Nat → Int64} {w : S_X5} {kc ks : Nat} {z : Value}
    (hM : ev_A y μc none [.ref 0] (W_X6 S) (fun r v => r = some z ∧ v = W_X6 S')) (cv : ev_CV y μc 4 0) (hl : ev_ml RL idx y) (hlk : ev_look t pc = some (.invokevirtual idx, nx, k, x, yy, v)) (hW : Nat.ble (rest.map fun v => v.category).sum 8 = true)
    (hroom : Nat.ble (ev_fr μc + 1) 13 = true ∧ Nat.ble (8 + (ev_nL μc + 11) + ev_lo μc) 500 = true) (h00 : ev_mc μc = 0 ∧ ev_ms μc = 0) (hmc : kc ≤ 601024 ∧ ks ≤ 7293034)
    (kk : LV p l e s m b below meth c D ct ad0 (pc + 3) L (z :: rest) (WLW S' f w) kc ks) : LV p l e s m b below meth c D ct ad0 pc L (.ref 0 :: rest) (WLW S f w) kc ks := by
  refine LV_of ho C (X := fun a1 a2 a3 a4 a5 a6 => a1 = pc + 3 ∧ a2 = L ∧ a3 = z :: rest ∧ a4 = WLW S' f w ∧ a5 = kc ∧ a6 = ks) (ev_callVp (μ := mL meth.name t) (as1 := []) (rest := rest) hM rfl (WLW6 S f w) cv hl hlk rfl rfl (Nat.le_of_ble_eq_true hW) ⟨Nat.le_of_ble_eq_true hroom.1, Nat.le_of_ble_eq_true hroom.2⟩ ⟨by rw [h00.1]; exact hmc.1, by rw [h00.2]; exact hmc.2⟩ (fun r w1 hp => by rw [hp.2, W6_len, W6_len]) (fun r w1 hp => ?_)) ?_
  · obtain ⟨rfl, rfl⟩ := hp
    rw [h00.1, h00.2]
    exact ev_exit ⟨rfl, rfl, rfl, (WLW6 S' f w).symm, rfl, rfl⟩
  · intro _ _ _ _ _ _ hX
    obtain ⟨rfl, rfl, rfl, rfl, rfl, rfl⟩ := hX
    exact kk
/-- .. and over its cells without the saved worlds -/
theorem LV_x4 {t : ev_T} (ho : ∀ nm, ev_OK (mL nm t)) (C : LC p l s m b meth c D ct ad0 Ln xs) {μc : ev_M} {y : MethodName} {pc idx nx k x yy : Nat} {v : Value} {L : ev_L} {rest : List Value} {S : S_X6} {u : S_X4} {f : Nat → Int64} {w : S_X5} {kc ks : Nat} {z : Value}
    (hM : ev_A y μc none [.ref 0] (W_X4 S.1) (fun r v => r = some z ∧ v = W_X4 u)) (cv : ev_CV y μc 4 0) (hl : ev_ml RL idx y) (hlk : ev_look t pc = some (.invokevirtual idx, nx, k, x, yy, v)) (hW : Nat.ble (rest.map fun v => v.category).sum 8 = true)
    (hroom : Nat.ble (ev_fr μc + 1) 13 = true ∧ Nat.ble (8 + (ev_nL μc + 11) + ev_lo μc) 500 = true) (h00 : ev_mc μc = 0 ∧ ev_ms μc = 0) (hmc : kc ≤ 601024 ∧ ks ≤ 7293034)
    (kk : LV p l e s m b below meth c D ct ad0 (pc + 3) L (z :: rest) (WLW (m_X6_g u S) f w) kc ks) : LV p l e s m b below meth c D ct ad0 pc L (.ref 0 :: rest) (WLW S f w) kc ks := by
  refine LV_of ho C (X := fun a1 a2 a3 a4 a5 a6 => a1 = pc + 3 ∧ a2 = L ∧ a3 = z :: rest ∧ a4 = WLW (m_X6_g u S) f w ∧ a5 = kc ∧ a6 = ks) (ev_callVp (μ := mL meth.name t) (as1 := []) (rest := rest) hM rfl (WLW4 S f w) cv hl hlk rfl rfl (Nat.le_of_ble_eq_true hW) ⟨Nat.le_of_ble_eq_true hroom.1, Nat.le_of_ble_eq_true hroom.2⟩ ⟨by rw [h00.1]; exact hmc.1, by rw [h00.2]; exact hmc.2⟩ (fun r w1 hp => by rw [hp.2]; rfl) (fun r w1 hp => ?_)) ?_
  · obtain ⟨rfl, rfl⟩ := hp
    rw [h00.1, h00.2]
    exact ev_exit ⟨rfl, rfl, rfl, (WLW4 (m_X6_g u S) f w).symm, rfl, rfl⟩
  · intro _ _ _ _ _ _ hX
    obtain ⟨rfl, rfl, rfl, rfl, rfl, rfl⟩ := hX
    exact kk
/-- one of the law's small methods -/
theorem LV_wrap {t : ev_T} (ho : ∀ nm, ev_OK (mL nm t)) (C : LC p l s m b meth c D ct ad0 Ln xs) {μc : ev_M} {yc : MethodName} {hh : List (Nat × Nat × Nat × Nat)} {pc idx nx k x yy n : Nat} {v : Value} {L : ev_L} {st rest as1 : List Value} {S S' : S_X6} {f f' : Nat → Int64} {w : S_X5} {kc ks : Nat} {z : Value}
    (hM : ev_AH yc μc hh as1 (WL S f) (fun r v => r = some z ∧ v = WL S' f')) (cw : ev_CW yc μc hh n) (hl : Jvm.Cond.methodLink RL idx yc ∈ ev_WA) (hlk : ev_look t pc = some (.invokestatic idx, nx, k, x, yy, v)) (hst : as1.reverse ++ rest = st) (hn : as1.length = n) (hW : Nat.ble (rest.map fun v => v.category).sum 8 = true)
    (hroom : Nat.ble ((ev_rmH μc).frames + 1) 13 = true ∧ Nat.ble (8 + (ev_nL μc + 11) + (ev_rmH μc).locals) 500 = true) (hmc : kc + 1 ≤ 601024 ∧ ks + 6 ≤ 7293034)
    (kk : LV p l e s m b below meth c D ct ad0 (pc + 3) L (z :: rest) (WLW S' f' w) (kc + 1) (ks + 6)) : LV p l e s m b below meth c D ct ad0 pc L st (WLW S f w) kc ks := by
  refine LV_callH ho C hM cw hl hlk (w := WLW S f w) (wc := WL S f) (tl := WMo w) rfl hst hn hW hroom hmc (fun r w1 hp => by rw [hp.2, WL_len, WL_len]) (fun r w1 hp => ?_)
  obtain ⟨rfl, rfl⟩ := hp
  exact kk
end LAWS
/-- the law's locals at the head of its loop -/
def L0 (i : Int32) : ev_L := [some (.ref 999), some (.ref 0), some (.ref 141), some (.ref 140), some (.int i), none, none, none, none]
theorem L0_w {i : Int32} {y5 y6 y7 y8 : Option Value} : ∀ j v, ev_nth (L0 i) j = some v → ev_nth [some (.ref 999), some (.ref 0), some (.ref 141), some (.ref 140), some (.int i), y5, y6, y7, y8] j = some v := by
  intro j v hv
  match j, hv with
  | 0, hv => exact hv
  | 1, hv => exact hv
  | 2, hv => exact hv
  | 3, hv => exact hv
  | 4, hv => exact hv
  | 5, hv => cases hv
  | 6, hv => cases hv
  | 7, hv => cases hv
  | 8, hv => cases hv
  | _ + 9, hv => cases hv
