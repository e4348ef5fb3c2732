/-! ===== the law's body: its turns ===== -/
section LAWS
variable {p : Program} {l : Launch} {e : Env} {s : State} {m : MethodId} {b : Nat} {below : List Frame} {meth : Method} {c : Code} {D : va_G} {ct ad0 : Nat → Nat} {Ln : Nat} {xs : Nat → Int32}

set_option maxRecDepth 20000 in
theorem c_turn {F : Nat} (hF : 6400 < F) (C0 : LC p l s m b meth c D ct ad0 Ln xs) (hLn : Ln ≤ 2048) {S : S_X6} {E C : S_XE} {kc ks k : Nat} (hmc : kc + 1 ≤ 600130 ∧ ks + 6 ≤ 7301080) (hk : k < 16) (q : KT k S E) (kk : ∀ S E C, KT (k + 1) S E → LV p l e s m b below meth c D ct ad0 286 (LB (some (.int (nI (k + 1)))) none none none none none none none) [] (WW S E C) (kc + 1) (ks + 6)) : LV p l e s m b below meth c D ct ad0 286 (LB (some (.int (nI k))) none none none none none none none) [] (WW S E C) kc ks := by
  have hmc0 : kc ≤ 600130 ∧ ks ≤ 7301080 := by omega
  have fin : ∀ (t : Nat), t < 6 → ∀ (x : Int32) (S : S_X6) (E : S_XE), KT (k + 1) S E → LV p l e s m b below meth c D ct ad0 719 (LB (some (.int (nI k))) (some (.int x)) none (some (.int (nI t))) none none none none) [] (WW S E C) (kc + 1) (ks + 6) := fun t ht x S E q => by
    obtain ⟨T, hT, q⟩ := q
    exact c_end hF C0 q hmc ht (fun S C q2 => kk S E C ⟨T, hT, q2⟩)
  refine c_head C0 hLn hmc0 hk (fun x kd t y hkd ht hy => ?_)
  refine LV_run oL_head C0 (cs := []) (pc' := 340) (L' := LB (some (.int (nI k))) (some (.int x)) (some (.int (nI kd))) (some (.int (nI t))) (some (.int y)) none none none) (st' := [.int 4, .int (nI kd)]) (w' := WW S E C) [] 2 (by with_unfolding_all rfl) trivial ?_
  refine LV_br oL_ca C0 rfl rfl (fun h => ?_) (fun h => c_chg hF C0 hmc hk ht hy q (fun S E q => fin t ht x S E q))
  refine LV_run oL_tk C0 (cs := []) (pc' := 536) (L' := LB (some (.int (nI k))) (some (.int x)) (some (.int (nI kd))) (some (.int (nI t))) (some (.int y)) none none none) (st' := [.int 6, .int (nI kd)]) (w' := WW S E C) [] 2 (by with_unfolding_all rfl) trivial ?_
  refine LV_br oL_tk C0 rfl rfl (fun h => ?_) (fun h => LV_up (Nat.le_succ _) (Nat.le_add_right _ 6) (c_tk hF C0 hmc hk q (fun S E q => fin t ht x S E q)))
  refine LV_run oL_tr C0 (cs := []) (pc' := 607) (L' := LB (some (.int (nI k))) (some (.int x)) (some (.int (nI kd))) (some (.int (nI t))) (some (.int y)) none none none) (st' := [.int 6, .int (nI kd)]) (w' := WW S E C) [] 2 (by with_unfolding_all rfl) trivial ?_
  refine LV_br oL_tr C0 rfl rfl (fun h => LV_up (Nat.le_succ _) (Nat.le_add_right _ 6) (c_su hF C0 hmc hk ht q (fun S E q => fin t ht x S E q))) (fun h => LV_up (Nat.le_succ _) (Nat.le_add_right _ 6) (c_tr hF C0 hmc hk q (fun S E q => fin t ht x S E q)))
theorem c_turns {F : Nat} (hF : 6400 < F) (C0 : LC p l s m b meth c D ct ad0 Ln xs) (hLn : Ln ≤ 2048) (hr : meth.sig.returnType = ret) : ∀ d k S E C kc ks, k + d = 16 → KT k S E → kc + d ≤ 600130 → ks + 6 * d ≤ 7301080 → LV p l e s m b below meth c D ct ad0 286 (LB (some (.int (nI k))) none none none none none none none) [] (WW S E C) kc ks := by
  intro d
  induction d with
  | zero =>
    intro k S E C kc ks hk q h1 h2
    obtain rfl : k = 16 := by omega
    exact c_out C0 hr ⟨by omega, by omega⟩
  | succ d ih =>
    intro k S E C kc ks hk q h1 h2
    exact c_turn hF C0 hLn ⟨by omega, by omega⟩ (by omega) q (fun S E C q2 => ih (k + 1) S E C (kc + 1) (ks + 6) (by omega) q2 (by omega) (by omega))
set_option maxRecDepth 20000 in
theorem c_body {F : Nat} (hF : 6400 < F) (C0 : LC p l s m b meth c D ct ad0 Ln xs) (hLn : Ln ≤ 2048) (hr : meth.sig.returnType = ret) {S : S_X6} (z : Z_X6 S) {kc ks : Nat} (h1 : kc + 16 ≤ 600130) (h2 : ks + 96 ≤ 7301080) : LV p l e s m b below meth c D ct ad0 54 (LB none none none none none none none none) [] (WW S (fun _ => 0, fun _ => 0, fun _ => 0, fun _ => 0) (fun _ => 0, fun _ => 0, fun _ => 0, fun _ => 0)) kc ks := by
  have hmc : kc ≤ 600130 ∧ ks ≤ 7301080 := by omega
  refine c_q C0 hLn hmc (fun r0 hr0 r1 hr1 r2 hr2 r3 hr3 r4 hr4 => ?_)
  obtain ⟨Q, hQ⟩ : ∃ Q : Nat → Int32, Q = upd (upd (upd (upd (upd (fun _ => 0) (7 : Int32).toNatClampNeg (nI r0)) (8 : Int32).toNatClampNeg (nI r1)) (9 : Int32).toNatClampNeg (nI r2)) (10 : Int32).toNatClampNeg (nI r3)) (11 : Int32).toNatClampNeg (nI r4) := ⟨_, rfl⟩
  have hQk : ∀ k, Q k = if k = 11 then nI r4 else if k = 10 then nI r3 else if k = 9 then nI r2 else if k = 8 then nI r1 else if k = 7 then nI r0 else 0 := fun k => by rw [hQ]; rfl
  have b1 : SQ5 (Q, fun _ => 0, fun _ => 0, fun _ => 0) := fun i hi => by
    match i, hi with
    | 0, _ => exact ⟨r0, hQk 7, fun _ => by omega, fun h => absurd h (by decide), fun h => absurd h (by decide)⟩
    | 1, _ => exact ⟨r1, hQk 8, fun _ => by omega, fun h => absurd h (by decide), fun h => absurd h (by decide)⟩
    | 2, _ => exact ⟨r2, hQk 9, fun _ => by omega, fun h => absurd h (by decide), fun h => absurd h (by decide)⟩
    | 3, _ => exact ⟨r3, hQk 10, fun h => absurd h (by decide), fun _ => by omega, fun h => absurd h (by decide)⟩
    | 4, _ => exact ⟨r4, hQk 11, fun h => absurd h (by decide), fun h => absurd h (by decide), fun _ => by omega⟩
  have a0 : SA 0 S (Q, fun _ => 0, fun _ => 0, fun _ => 0) v00 := by
    obtain ⟨z1, z2, z3, z4, -⟩ := z
    refine ⟨WX_00 z1, ⟨0, by omega, z2, z4⟩, fun j hj => if_pos hj, fun j hj => ?_, fun i hi => absurd hi (by omega), fun i _ hi => z1.2.2.2.2.2.2.2.1 i hi⟩
    unfold v00
    rw [if_neg (by omega), if_neg (by omega)]
  refine LV_nx (w' := WW S (Q, fun _ => 0, fun _ => 0, fun _ => 0) (fun _ => 0, fun _ => 0, fun _ => 0, fun _ => 0)) rfl rfl (by rw [hQ]) rfl rfl ?_
  refine c_set (F := F) C0 b1 hmc (fun S v a5 => ?_) 5 0 S v00 rfl a0
  refine LV_run oL_sl C0 (cs := []) (pc' := 196) (L' := LB (some (.int 0)) none none none none none none none) (st' := []) (w' := WW S (Q, fun _ => 0, fun _ => 0, fun _ => 0) (fun _ => 0, fun _ => 0, fun _ => 0, fun _ => 0)) [196] 2 (by with_unfolding_all rfl) trivial ?_
  refine c_sl C0 hmc (fun sl hsl => ?_) 28 0 _ rfl (fun j hj => absurd hj (by omega))
  refine LV_run oL_add C0 (cs := []) (pc' := 218) (L' := LB (some (.int 0)) none none none none none none none) (st' := []) (w' := WW S (Q, fun _ => 0, sl, fun _ => 0) (fun _ => 0, fun _ => 0, fun _ => 0, fun _ => 0)) [218] 2 (by with_unfolding_all rfl) trivial ?_
  have sb : SB 0 S (Q, fun _ => 0, sl, fun _ => 0) := SB.of (E := (Q, fun _ => 0, sl, fun _ => 0)) (v := v) ⟨a5.1, a5.2.1, a5.2.2.1, a5.2.2.2.1, a5.2.2.2.2.1, a5.2.2.2.2.2⟩ (fun k hk => by
    show Q k = 0
    rw [hQk, if_neg (by omega), if_neg (by omega), if_neg (by omega), if_neg (by omega), if_neg (by omega)]) (fun t _ j _ _ => rfl) hsl
  refine c_add hF C0 hLn hmc (fun S E q => ?_) 6 0 S _ rfl sb
  refine LV_run oL_head C0 (cs := []) (pc' := 286) (L' := LB (some (.int 0)) none none none none none none none) (st' := []) (w' := WW S E (fun _ => 0, fun _ => 0, fun _ => 0, fun _ => 0)) [286] 2 (by with_unfolding_all rfl) trivial ?_
  exact c_turns hF C0 hLn hr 16 0 S E _ kc ks rfl ⟨0, by omega, q⟩ (by omega) (by omega)
end LAWS
