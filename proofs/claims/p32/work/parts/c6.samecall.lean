/-! the law calls same and would: the class's cells, its saved states, then the rows -/
theorem stk_off {l : Launch} (hflags : l.flags = flags0) : l.stackTraces = false := by
  unfold Launch.stackTraces
  rw [hflags]
  decide +kernel
theorem ev_ren_fix {n : Nat} {em : Nat → Nat} (he : ∀ k, k < n → em k = k) {w : List ev_E} (h : ev_bW n w) : w.map (ev_ren em) = w := by
  induction w with
  | nil => rfl
  | cons E w ih =>
    rw [List.map_cons, ih h.2]
    refine congrArg (fun z => z :: w) ?_
    have hE := h.1
    cases E with
    | inr o =>
      show Sum.inr (o.1, o.2.map (ev_cv em)) = Sum.inr o
      have e1 : o.2.map (ev_cv em) = o.2.map (ev_cv fun k => k) := ev_bS_cv he hE
      have e2 : o.2.map (ev_cv fun k => k) = o.2 := by rw [show (ev_cv fun k => k) = id from funext ev_cv_id, List.map_id]
      rw [e1, e2]
    | inl a =>
      obtain ⟨c, m, g⟩ := a
      match g, hE with
      | .inl f, _ => rfl
      | .inr (.inl f), _ => rfl
      | .inr (.inr (.inl f)), _ => rfl
      | .inr (.inr (.inr (.inl f))), _ => rfl
      | .inr (.inr (.inr (.inr f))), h =>
        show Sum.inl (c, m, Sum.inr (Sum.inr (Sum.inr (Sum.inr (fun i => (f i).map em))))) = Sum.inl (c, m, Sum.inr (Sum.inr (Sum.inr (Sum.inr f))))
        refine congrArg (fun z => Sum.inl (c, m, Sum.inr (Sum.inr (Sum.inr (Sum.inr z))))) ?_
        funext i
        cases hf : f i with
        | none => rfl
        | some b => exact congrArg some (he b (h i b hf))
theorem ev_bE_mono {n n2 : Nat} (hn : n ≤ n2) {E : ev_E} (h : ev_bE n E) : ev_bE n2 E := by
  cases E with
  | inr o =>
    refine List.all_eq_true.mpr fun v hv => ?_
    have := List.all_eq_true.mp h v hv
    cases v with
    | ref a => exact Nat.blt_eq.mpr (Nat.lt_of_lt_of_le (Nat.blt_eq.mp this) hn)
    | int _ => rfl
    | long _ => rfl
    | float _ => rfl
    | double _ => rfl
    | null => rfl
    | retAddr _ => rfl
  | inl a =>
    obtain ⟨c, m, g⟩ := a
    match g, h with
    | .inl f, _ => exact trivial
    | .inr (.inl f), _ => exact trivial
    | .inr (.inr (.inl f)), _ => exact trivial
    | .inr (.inr (.inr (.inl f))), _ => exact trivial
    | .inr (.inr (.inr (.inr f))), h => exact fun i b hb => Nat.lt_of_lt_of_le (h i b hb) hn
theorem ev_bW_mono {n n2 : Nat} (hn : n ≤ n2) {w : List ev_E} (h : ev_bW n w) : ev_bW n2 w := by
  induction w with
  | nil => trivial
  | cons E w ih => exact ⟨ev_bE_mono hn h.1, ih h.2⟩
set_option maxRecDepth 20000 in
theorem bW_X4 (u : S_X4) : ev_bW 140 (W_X4 u) := ⟨rfl, rfl, trivial, trivial, trivial, trivial, trivial, trivial, trivial, trivial, rfl, trivial, rfl, trivial, trivial, trivial, rfl, trivial, trivial, trivial, trivial, trivial, trivial, trivial, trivial, rfl, trivial, rfl, trivial, trivial, trivial, rfl, trivial, trivial, trivial, trivial, trivial, trivial, trivial, trivial, rfl, trivial, rfl, trivial, trivial, trivial, rfl, trivial, trivial, trivial⟩
theorem bW_X6 {S : S_X6} (hp : ∀ p, S.2.2 p < 6) : ev_bW 140 (W_X6 S) := by
  refine ev_bW_app (bW_X4 S.1) ⟨fun i b h => ?_, ev_bW_app (bW_T _ rfl) (ev_bW_app (bW_T _ rfl) (ev_bW_app (bW_T _ rfl) (ev_bW_app (bW_T _ rfl) (ev_bW_app (bW_T _ rfl) (ev_bW_app (bW_T _ rfl) trivial)))))⟩
  have h1 : 50 + 15 * S.2.2 i = b := Option.some.inj h
  have := hp i
  omega
set_option maxRecDepth 20000 in
theorem bW_X4n (u : S_X4) : ev_bW 50 (W_X4 u) := ⟨rfl, rfl, trivial, trivial, trivial, trivial, trivial, trivial, trivial, trivial, rfl, trivial, rfl, trivial, trivial, trivial, rfl, trivial, trivial, trivial, trivial, trivial, trivial, trivial, trivial, rfl, trivial, rfl, trivial, trivial, trivial, rfl, trivial, trivial, trivial, trivial, trivial, trivial, trivial, trivial, rfl, trivial, rfl, trivial, trivial, trivial, rfl, trivial, trivial, trivial⟩

def eW (k : Nat) : Nat := if k < 50 then k else if k < 58 then k + 90 else k - 58
theorem eW_inj : ∀ i, i < 58 → ∀ j, j < 58 → eW i = eW j → i = j := by
  intro i hi j hj h
  unfold eW at h
  repeat' (split at h)
  all_goals omega
def f9 (S : S_X6) : Nat → Option Nat := fun p => some (108 + 15 * S.2.2 p)
def c49 (S : S_X6) : ev_E := C9 fun p => some (50 + 15 * S.2.2 p)
def T90 (S : S_X6) : List ev_E := (TL S.2.1 S.2.2).tail
theorem W6_50 (S : S_X6) : W_X6 S = (W_X4 S.1 ++ [c49 S]) ++ T90 S := by
  rw [List.append_assoc]
  rfl
theorem P50_len (g : S_X4) (E : ev_E) : (W_X4 g ++ [E]).length = 50 := rfl
theorem ren50 (S : S_X6) (g : S_X4) : (W_X4 g ++ [C9 (f9 S)]).map (ev_ren eW) = W_X4 g ++ [c49 S] := by
  rw [List.map_append, ev_ren_fix (n := 50) (em := eW) (fun k hk => if_pos hk) (bW_X4n g)]
  refine congrArg (W_X4 g ++ ·) ?_
  show [Sum.inl (2, 6, Sum.inr (Sum.inr (Sum.inr (Sum.inr (fun i => (f9 S i).map eW)))))] = [c49 S]
  have e : (fun i => (f9 S i).map eW) = fun p => some (50 + 15 * S.2.2 p) := by
    funext i
    show some (eW (108 + 15 * S.2.2 i)) = _
    unfold eW
    rw [if_neg (by omega), if_neg (by omega)]
    congr 1
    omega
  rw [e]
  rfl
theorem pickW (S : S_X6) (E C : S_XE) (R : List ev_E) (hl : R.length ≤ 8) (hR : ev_pick (WL8 E C) (fun k => k - 50) 50 R.length = R.map (ev_ren eW)) : ev_pick (WW S E C) eW 0 ((W_X4 S.1 ++ [C9 (f9 S)]) ++ R).length = ((W_X4 S.1 ++ [C9 (f9 S)]) ++ R).map (ev_ren eW) := by
  have hw : (WW S E C).length = 148 := by
    unfold WW
    rw [List.length_append, W6_len]
    rfl
  have e1 : ev_pick (WW S E C) eW 0 50 = W_X4 S.1 ++ [c49 S] := by
    rw [ev_pick_row 50 0 0 (fun i hi => by rw [Nat.zero_add]; exact if_pos hi) (by omega), List.drop_zero]
    unfold WW
    rw [W6_50, List.append_assoc]
    rw [← P50_len S.1 (c49 S)]
    exact List.take_left
  have e2 : ev_pick (WW S E C) eW 50 R.length = R.map (ev_ren eW) := by
    unfold WW
    rw [ev_pick_sh (g := fun k => k - 50) R.length 50 (fun i hi => by
      rw [W6_len]
      unfold eW
      rw [if_neg (by omega), if_pos (by omega)]
      omega)]
    exact hR
  rw [List.length_append, P50_len, ev_pick_app 50 R.length 0 (by rw [e1]; exact P50_len _ _), e1, Nat.zero_add, e2, List.map_append, ren50]
theorem putW (S : S_X6) (g : S_X4) (E C E2 C2 : S_XE) (R : List ev_E) (hl : R.length ≤ 8) (hr : R.map (ev_ren eW) = R.map (ev_ren fun k => k - 50)) (hR : ev_putm (fun k => k - 50) (WL8 E C) 50 R = WL8 E2 C2) : ev_putm eW (WW S E C) 0 ((W_X4 g ++ [C9 (f9 S)]) ++ R) = WW (m_X6_g g S) E2 C2 := by
  have hw : (WW S E C).length = 148 := by
    unfold WW
    rw [List.length_append, W6_len]
    rfl
  have e1 : ev_putm eW (WW S E C) 0 (W_X4 g ++ [C9 (f9 S)]) = WW (m_X6_g g S) E C := by
    rw [ev_putm_row _ _ 0 0 (fun i hi => by rw [Nat.zero_add]; exact if_pos (by rw [P50_len] at hi; exact hi)) (by rw [P50_len]; omega), ren50]
    unfold ev_sput WW
    rw [List.take_zero, Nat.zero_add, P50_len, W6_50 S, W6_50 (m_X6_g g S), List.append_assoc (W_X4 S.1 ++ [c49 S])]
    have : List.drop 50 ((W_X4 S.1 ++ [c49 S]) ++ (T90 S ++ WL8 E C)) = T90 S ++ WL8 E C := by
      rw [← P50_len S.1 (c49 S)]
      exact List.drop_left
    rw [this, List.nil_append, ← List.append_assoc]
    rfl
  rw [ev_putm_app, e1, P50_len]
  unfold WW
  rw [ev_putm_sh (g := fun k => k - 50) R (WL8 E C) (0 + 50) (fun i hi => by
    rw [W6_len]
    unfold eW
    rw [if_neg (by omega), if_pos (by omega)]
    omega) hr]
  exact congrArg (W_X6 (m_X6_g g S) ++ ·) hR
section LAWS
variable {p : Program} {l : Launch} {e : Env} {s : State} {m : MethodId} {b : Nat} {below : List Frame} {meth : Method} {c : Code} {D : va_G} {ct ad0 : Nat → Nat} {Ln : Nat} {xs : Nat → Int32}
theorem LV_se {t : ev_T} (ho : ∀ nm, ev_OK (mL nm t)) (C0 : LC p l s m b meth c D ct ad0 Ln xs) {μc : ev_M} {y : MethodName} {pc idx nx k x yy n : Nat} {v : Value} {L : ev_L} {st rest as1 : List Value} {w w2 wt wt2 : List ev_E} {kc ks : Nat} {z : Value}
    (hM : ev_A y μc none as1 wt (fun r v => r = some z ∧ v = wt2)) (cv : ev_CS y μc n) (hl : ev_ml RL idx y) (hlk : ev_look t pc = some (.invokestatic idx, nx, k, x, yy, v)) (hst : (as1.map (ev_cv eW)).reverse ++ rest = st) (hn : as1.length = n) (hnl : wt.length ≤ 58) (hsel : ev_pick w eW 0 wt.length = wt.map (ev_ren eW))
    (hW : Nat.ble (rest.map fun v => v.category).sum 8 = true) (hroom : Nat.ble (ev_fr μc + 1) 11 = true ∧ Nat.ble (8 + (ev_nL μc + 11) + ev_lo μc) 470 = true) (h00 : ev_mc μc = 0 ∧ ev_ms μc = 0) (hmc : kc ≤ 600130 ∧ ks ≤ 7301080) (hlen : wt2.length = wt.length) (hz : ev_cv eW z = z) (hp : ev_putm eW w 0 wt2 = w2)
    (kk : LV p l e s m b below meth c D ct ad0 (pc + 3) L (z :: rest) w2 kc ks) : LV p l e s m b below meth c D ct ad0 pc L st w kc ks := by
  refine LV_of ho C0 (X := fun a1 a2 a3 a4 a5 a6 => a1 = pc + 3 ∧ a2 = L ∧ a3 = z :: rest ∧ a4 = w2 ∧ a5 = kc ∧ a6 = ks) (ev_callS (μ := mL meth.name t) eW hM cv hl hlk hst hn hsel (fun i hi j hj h => eW_inj i (by omega) j (by omega) h) (Nat.le_of_ble_eq_true hW) ⟨Nat.le_of_ble_eq_true hroom.1, Nat.le_of_ble_eq_true hroom.2⟩ ⟨by rw [h00.1]; exact hmc.1, by rw [h00.2]; exact hmc.2⟩ (fun r w1 hp => by rw [hp.2]; exact hlen) (fun r w1 hq => ?_)) ?_
  · obtain ⟨rfl, rfl⟩ := hq
    rw [h00.1, h00.2]
    refine ev_exit ⟨rfl, rfl, ?_, hp, rfl, rfl⟩
    show ev_cv eW z :: rest = _
    rw [hz]
  · intro _ _ _ _ _ _ hX
    obtain ⟨rfl, rfl, rfl, rfl, rfl, rfl⟩ := hX
    exact kk
def R4 (E : S_XE) : List ev_E := [.inl (0, 12, .inl E.1), .inl (0, 48, .inl E.2.1), .inl (0, 28, .inl E.2.2.1), .inl (0, 64, .inl E.2.2.2)]
theorem LV_same {t : ev_T} (ho : ∀ nm, ev_OK (mL nm t)) (C0 : LC p l s m b meth c D ct ad0 Ln xs) {F : Nat} {pc nx k x yy : Nat} {v : Value} {L : ev_L} {S : S_X6} {E C : S_XE} {kc ks : Nat} (h : s_L_same F 12 48 28 64 S.1 E.1 E.2.1 E.2.2.1 E.2.2.2 = some true) (hlk : ev_look t pc = some (.invokestatic 138, nx, k, x, yy, v)) (hmc : kc ≤ 600130 ∧ ks ≤ 7301080)
    (kk : LV p l e s m b below meth c D ct ad0 (pc + 3) L [.int 1] (WW S E C) kc ks) : LV p l e s m b below meth c D ct ad0 pc L [.ref 143, .ref 142, .ref 141, .ref 140, .ref 0] (WW S E C) kc ks :=
  LV_se ho C0 (z := .int 1) (rest := []) (wt := (W_X4 S.1 ++ [C9 (f9 S)]) ++ R4 E) (wt2 := (W_X4 S.1 ++ [C9 (f9 S)]) ++ R4 E) (t_L_same (f9 := f9 S) F 12 48 28 64 S.1 E.1 E.2.1 E.2.2.1 E.2.2.2 true h) cs_L_same ml_L_law_138 hlk rfl rfl (by rw [List.length_append, P50_len]; exact Nat.le_of_ble_eq_true rfl) (pickW S E C (R4 E) (Nat.le_of_ble_eq_true rfl) (by with_unfolding_all rfl)) rfl ⟨rfl, rfl⟩ ⟨rfl, rfl⟩ hmc rfl rfl (putW S S.1 E C E C (R4 E) (Nat.le_of_ble_eq_true rfl) rfl (by with_unfolding_all rfl)) kk
theorem LV_would {t : ev_T} (ho : ∀ nm, ev_OK (mL nm t)) (C0 : LC p l s m b meth c D ct ad0 Ln xs) {F : Nat} {pc nx k x yy : Nat} {v : Value} {L : ev_L} {S : S_X6} {g : S_X4} {E C C2 : S_XE} {a d : Int32} {kc ks : Nat} (h : s_L_would F (tW E C S.1) a d = some (true, tW E C2 g)) (hlk : ev_look t pc = some (.invokestatic 142, nx, k, x, yy, v)) (hmc : kc ≤ 600130 ∧ ks ≤ 7301080)
    (kk : LV p l e s m b below meth c D ct ad0 (pc + 3) L [.int 1] (WW (m_X6_g g S) E C2) kc ks) : LV p l e s m b below meth c D ct ad0 pc L [.ref 147, .ref 146, .ref 145, .ref 144, .ref 143, .ref 142, .ref 141, .ref 140, .int d, .int a, .ref 0] (WW S E C) kc ks :=
  LV_se ho C0 (z := .int 1) (rest := []) (wt := (W_X4 S.1 ++ [C9 (f9 S)]) ++ WL8 E C) (wt2 := (W_X4 g ++ [C9 (f9 S)]) ++ WL8 E C2) (t_L_would (f9 := f9 S) F (tW E C S.1) a d (true, tW E C2 g) h) cs_L_would ml_L_law_142 hlk rfl rfl (by rw [List.length_append, P50_len]; exact Nat.le_of_ble_eq_true rfl) (pickW S E C (WL8 E C) (Nat.le_of_ble_eq_true rfl) (by with_unfolding_all rfl)) rfl ⟨rfl, rfl⟩ ⟨rfl, rfl⟩ hmc rfl rfl (putW S g E C E C2 (WL8 E C2) (Nat.le_of_ble_eq_true rfl) rfl (by with_unfolding_all rfl)) kk
end LAWS
